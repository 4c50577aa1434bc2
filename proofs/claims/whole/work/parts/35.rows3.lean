/-! mean, copy -/
def p_sum (f : Nat → Int32) : Nat → Nat → Int64 → Int64
  | 0, _, acc => acc
  | c + 1, i, acc => p_sum f c (i + 1) (acc + (f i).toInt64)
theorem p_sum_congr {f g : Nat → Int32} : ∀ (c i : Nat) (acc : Int64), (∀ j, i ≤ j → j < i + c → f j = g j) → p_sum f c i acc = p_sum g c i acc := by
  intro c
  induction c with
  | zero => intro i acc h; rfl
  | succ c ih =>
    intro i acc h
    unfold p_sum
    rw [h i (by omega) (by omega), ih (i + 1) _ (fun j h1 h2 => h j (by omega) (by omega))]
theorem e_sum (k z : Nat) (hz : z ≤ 60) : ∀ (m i : Nat) (acc : Int64) (S : dk_S), S.1 k 1 = nI z → i ≤ z → z - i < m → fX5_sum_L4 k m acc (nI i) S = some (p_sum (S.1 (k + 1)) (z - i) i acc, S) := by
  intro m
  induction m with
  | zero => intro i acc S h0 h1 h2; omega
  | succ m ih =>
    intro i acc S h0 h1 h2
    rw [fX5_sum_L4, h0]
    by_cases h : z ≤ i
    · rw [if_pos ((nI_leI (by omega) (by omega)).mpr h), show z - i = 0 by omega]
      rfl
    · rw [if_neg (fun q => h ((nI_leI (by omega) (by omega)).mp q)), dI_in (by omega) (by omega), dk_gd_t, dk_lt_eq, nI_1, nI_clamp (by omega), ih (i + 1) _ S h0 (by omega) (by omega), show z - i = (z - (i + 1)) + 1 by omega]
      rfl
theorem e_msum (r z : Nat) (hr : r < 6) (hz : z ≤ 60) (kx : (Int64 × dk_S) → Option (Int32 × dk_S)) : ∀ (m i : Nat) (acc : Int64) (S : dk_S), S.1 84 r = nI z → i ≤ z → z - i < m → fX9_mean_L44 (nI r) kx m acc (nI i) S = kx (p_sum (fun j => S.1 85 (60 * r + j)) (z - i) i acc, S) := by
  intro m
  induction m with
  | zero => intro i acc S h0 h1 h2; omega
  | succ m ih =>
    intro i acc S h0 h1 h2
    rw [fX9_mean_L44, dI_in hr (by omega), dk_gd_t, nI_clamp (by omega), h0]
    by_cases h : z ≤ i
    · rw [if_pos ((nI_leI (by omega) (by omega)).mpr h), show z - i = 0 by omega]
      rfl
    · rw [if_neg (fun q => h ((nI_leI (by omega) (by omega)).mp q)), q_rowAt hr (by omega), some_bind', dk_lt_eq, nI_1, ih (i + 1) _ S h0 (by omega) (by omega), show z - i = (z - (i + 1)) + 1 by omega]
      rfl
theorem pr_mean (a1 : Int32) {n : Nat} {S : dk_S} (hn : n < 512) (hI : dk_I n S) : ∃ (r : Int32) (S1 S2 : dk_S), fX8_mean a1 S = some (r, S1) ∧ fX9_mean a1 S1 = some (r, S2) ∧ dk_I (n + 1) S2 := by
  unfold fX8_mean fX9_mean
  simp only [q_noRow, q_isRow, some_bind']
  by_cases h1 : 0 ≤ a1 ∧ a1 ≤ 5
  · simp only [h1, and_self, if_true, if_false, i_10]
    obtain ⟨r, hr, rfl⟩ := b_row h1
    obtain ⟨b1, b2, b3⟩ := hI.2.1.1 r hr
    simp only [dI_in hr (by omega : (6 : Nat) < 2 ^ 31), dk_gd_t, nI_clamp (by omega : r < 2 ^ 31)]
    rcases b2 with b2 | ⟨z, hz, b2⟩
    · simp only [c_miss (b1.trans b2), some_bind', i_10, if_false, q_found1]
      refine ⟨_, _, _, rfl, ?_, dk_I_fn (f := 1) (by omega) hI⟩
      rw [q_fnd_ne _ _ (by omega) (by omega), b2, if_neg m1_neg, q_notes1]
      rfl
    · simp only [c_there (b1.trans b2) (by omega), some_bind', if_true]
      rw [b1, b2]
      by_cases hz0 : z = 0
      · subst hz0
        rw [nI_0, if_pos rfl, q_found4, some_bind']
        refine ⟨_, _, _, rfl, ?_, dk_I_fn (f := 4) (by omega) hI⟩
        simp only [q_fnd_ne _ _ (by omega : ¬ 84 = 0) (by omega : ¬ 84 = 30), b2]
        rw [nI_0, if_pos (by decide), if_pos rfl, q_notes4]
        rfl
      · have hne : ¬ nI z = 0 := nI_ne0 (by omega) (by omega)
        have hl : ¬ (nI z).toInt64 = 0 := by
          intro h
          have := congrArg Int64.toInt h
          rw [Int32.toInt_toInt64, nI_toInt (by omega)] at this
          exact hz0 (by have h2 : (0 : Int64).toInt = 0 := rfl; omega)
        have hs := e_sum (31 + 2 * r) z hz dk_FU 0 0 S (b1.trans b2) (by omega) (by have := dk_FU_ge; omega)
        rw [nI_0] at hs
        rw [if_neg hne]
        unfold fX5_sum
        rw [hs]
        simp only [some_bind', q_tell]
        rw [b1, b2, decide_eq_true hl, dk_gd_t]
        have he : p_sum (S.1 (31 + 2 * r + 1)) (z - 0) 0 0 = p_sum (fun j => S.1 85 (60 * r + j)) (z - 0) 0 0 := p_sum_congr _ _ _ (fun j _ hj => by
          rw [← b3 j (by omega), show 32 + 2 * r = 31 + 2 * r + 1 by omega])
        refine ⟨_, _, _, rfl, ?_, dk_I_tell (v := (p_sum (S.1 (31 + 2 * r + 1)) (z - 0) 0 0 / (nI z).toInt64).toInt32) hI⟩
        have e84 : (dk_sr S 0 (upd (S.1 0) 12 ((p_sum (S.1 (31 + 2 * r + 1)) (z - 0) 0 0 / (nI z).toInt64).toInt32))).1 84 = S.1 84 := dk_sr_ne _ _ (by omega)
        have e85 : (dk_sr S 0 (upd (S.1 0) 12 ((p_sum (S.1 (31 + 2 * r + 1)) (z - 0) 0 0 / (nI z).toInt64).toInt32))).1 85 = S.1 85 := dk_sr_ne _ _ (by omega)
        generalize hG : dk_sr S 0 (upd (S.1 0) 12 ((p_sum (S.1 (31 + 2 * r + 1)) (z - 0) 0 0 / (nI z).toInt64).toInt32)) = G at e84 e85 ⊢
        rw [e84, b2, if_pos (nI_ge0 (by omega)), if_neg hne]
        have hm := e_msum r z hr hz (fun t5 : Int64 × dk_S => dk_gd (decide (¬ ((t5.2.1 84 r).toInt64) = 0)) ((fX9_tells ((t5.1 / ((t5.2.1 84 r).toInt64)).toInt32) 1 t5.2).bind (fun r6 => some (r6.1, r6.2)))) dk_FU 0 0 G (by rw [e84]; exact b2) (by omega) (by have := dk_FU_ge; omega)
        rw [nI_0] at hm
        rw [hm, e84, b2, decide_eq_true hl, dk_gd_t, q_tells, some_bind', e85, ← he]
  · simp only [h1, if_false, if_true, i_10]
    exact ⟨_, _, _, rfl, rfl, dk_I_up hI⟩
/-- a span lies within -/
def p_span (x y : Int32) (z : Nat) : Prop := 0 ≤ x.toInt ∧ x.toInt + y.toInt ≤ (z : Int)
theorem c_span {S : dk_S} {k z : Nat} (h : S.1 k 1 = nI z) (hz : z ≤ 60) (x y : Int32) (hy : 0 ≤ y) : (p_span x y z ∧ fX5_hasSpan k x y S = some (1, S)) ∨ (¬ p_span x y z ∧ fX5_hasSpan k x y S = some (0, S)) := by
  have h0 : (0 : Int32).toInt = 0 := rfl
  have h1 : (nI z).toInt = z := nI_toInt (by omega)
  rw [i32_le, h0] at hy
  unfold fX5_hasSpan p_span
  rw [h]
  by_cases q1 : x < 0
  · rw [if_pos q1]
    rw [i32_lt, h0] at q1
    exact Or.inr ⟨by omega, rfl⟩
  · rw [if_neg q1]
    rw [i32_lt, h0] at q1
    by_cases q2 : nI z < x
    · rw [if_pos q2]
      rw [i32_lt, h1] at q2
      exact Or.inr ⟨by omega, rfl⟩
    · rw [if_neg q2]
      rw [i32_lt, h1] at q2
      have h2 : (nI z - x).toInt = z - x.toInt := by
        rw [i32_sub (by rw [h1]; omega) (by rw [h1]; omega), h1]
      by_cases q3 : nI z - x < y
      · rw [if_pos q3]
        rw [i32_lt, h2] at q3
        exact Or.inr ⟨by omega, rfl⟩
      · rw [if_neg q3]
        rw [i32_lt, h2] at q3
        exact Or.inl ⟨by omega, rfl⟩
theorem dk_cmp_gt (x y : Int64) : 0 < lg_cmp x y ↔ y.toInt < x.toInt := by
  unfold lg_cmp
  by_cases h : x > y
  · rw [if_pos h]
    exact ⟨fun _ => Int64.lt_iff_toInt_lt.mp h, fun _ => by decide⟩
  · rw [if_neg h]
    have h' : ¬ y.toInt < x.toInt := fun q => h (Int64.lt_iff_toInt_lt.mpr q)
    by_cases h2 : x = y
    · rw [if_pos h2]; exact ⟨fun q => absurd q (by decide), fun q => absurd q h'⟩
    · rw [if_neg h2]; exact ⟨fun q => absurd q (by decide), fun q => absurd q h'⟩
theorem dk_cmp_le (x y : Int64) : lg_cmp x y ≤ 0 ↔ x.toInt ≤ y.toInt := by
  have h := dk_cmp_gt x y
  have h2 : lg_cmp x y ≤ 0 ↔ ¬ 0 < lg_cmp x y := (i32_nlt).symm
  rw [h2, h]
  omega
theorem l_add {x y : Int32} : (x.toInt64 + y.toInt64).toInt = x.toInt + y.toInt := by
  have hx := i32_rng x
  have hy := i32_rng y
  rw [Int64.toInt_add, Int32.toInt_toInt64, Int32.toInt_toInt64]
  exact Int.bmod_eq_of_le (by omega) (by omega)
theorem e_cp1 (x3 x4 : Int32) (r i0 c : Nat) (hr : r < 6) (hc : i0 + c ≤ 60) (kx : dk_S → Option (Int32 × dk_S)) : ∀ (m i : Nat) (S : dk_S), i ≤ c → c - i < m → fX9_copy_L104 (nI r) (nI i0) x3 x4 (nI c) kx m (nI i) S = kx (dk_sr S 86 (fun j => if i ≤ j ∧ j < c then S.1 85 (60 * r + (i0 + j)) else S.1 86 j)) := by
  intro m
  induction m with
  | zero => intro i S h1 h2; omega
  | succ m ih =>
    intro i S h1 h2
    rw [fX9_copy_L104, nI_add]
    by_cases h : c ≤ i
    · rw [if_pos ((nI_leI (by omega) (by omega)).mpr h)]
      congr 1
      conv => lhs; rw [← dk_sr_id S 86]
      congr 1
      funext j
      rw [if_neg (by omega)]
    · rw [if_neg (fun q => h ((nI_leI (by omega) (by omega)).mp q)), q_rowAt hr (by omega), some_bind', dI_in (by omega) (by omega), dk_gd_t, dk_lt_eq, nI_1, nI_clamp (by omega), ih (i + 1) _ (by omega) (by omega), dk_si_eq, dk_sr_sr, dk_sr_same, dk_sr_ne _ _ (by omega)]
      congr 2
      funext j
      by_cases hj : j = i
      · subst hj
        rw [if_neg (by omega), if_pos (by omega), upd_same]
      · rw [upd_ne _ _ hj]
        by_cases hj2 : i ≤ j ∧ j < c
        · rw [if_pos hj2, if_pos (by omega)]
        · rw [if_neg hj2, if_neg (by omega)]
theorem e_cp2 (t j0 c : Nat) (ht : t < 6) (hc : j0 + c ≤ 60) : ∀ (m i : Nat) (S : dk_S), i ≤ c → c - i < m → fX9_copy_L136 (nI t) (nI j0) (nI c) m (nI i) S = some (1, dk_sr S 85 (fun q => if 60 * t + j0 + i ≤ q ∧ q < 60 * t + j0 + c then S.1 86 (q - (60 * t + j0)) else S.1 85 q)) := by
  intro m
  induction m with
  | zero => intro i S h1 h2; omega
  | succ m ih =>
    intro i S h1 h2
    rw [fX9_copy_L136, show (60 : Int32) = nI 60 from rfl, nI_mul, nI_add, nI_add]
    by_cases h : c ≤ i
    · rw [if_pos ((nI_leI (by omega) (by omega)).mpr h)]
      congr 2
      conv => lhs; rw [← dk_sr_id S 85]
      congr 1
      funext j
      rw [if_neg (by omega)]
    · rw [if_neg (fun q => h ((nI_leI (by omega) (by omega)).mp q)), dI_in (by omega) (by omega), dk_gd_t, dI_in (by omega) (by omega), dk_gd_t, dk_lt_eq, nI_1, nI_clamp (by omega), nI_clamp (by omega), ih (i + 1) _ (by omega) (by omega), dk_si_eq, dk_sr_sr, dk_sr_same, dk_sr_ne _ _ (by omega)]
      congr 3
      funext j
      by_cases hj : j = 60 * t + j0 + i
      · subst hj
        rw [if_neg (by omega), if_pos (by omega), upd_same, show 60 * t + j0 + i - (60 * t + j0) = i by omega]
      · rw [upd_ne _ _ hj]
        by_cases hj2 : 60 * t + j0 + i ≤ j ∧ j < 60 * t + j0 + c
        · rw [if_pos hj2, if_pos (by omega)]
        · rw [if_neg hj2, if_neg (by omega)]
theorem pr_copy (a1 : Int32) (a2 : Int32) (a3 : Int32) (a4 : Int32) (a5 : Int32) {n : Nat} {S : dk_S} (hn : n < 512) (hI : dk_I n S) : ∃ (r : Int32) (S1 S2 : dk_S), fX8_copy a1 a2 a3 a4 a5 S = some (r, S1) ∧ fX9_copy a1 a2 a3 a4 a5 S1 = some (r, S2) ∧ dk_I (n + 1) S2 := by
  unfold fX8_copy fX9_copy
  simp only [q_noRow, q_isRow, some_bind']
  by_cases h1 : 0 ≤ a1 ∧ a1 ≤ 5
  rotate_left
  · simp only [h1, if_false, if_true, i_10]
    exact ⟨_, _, _, rfl, rfl, dk_I_up hI⟩
  by_cases h2 : 0 ≤ a3 ∧ a3 ≤ 5
  rotate_left
  · simp only [h1, h2, and_self, if_false, if_true, i_10]
    exact ⟨_, _, _, rfl, rfl, dk_I_up hI⟩
  by_cases h3 : 0 ≤ a5
  rotate_left
  · simp only [h1, h2, h3, and_self, if_false, if_true, i_10, q_found5, q_notes5, some_bind']
    exact ⟨_, _, _, rfl, rfl, dk_I_fn (by omega) hI⟩
  simp only [h1, h2, h3, and_self, if_true, if_false, i_10]
  obtain ⟨r, hr, rfl⟩ := b_row h1
  obtain ⟨t, ht, rfl⟩ := b_row h2
  obtain ⟨b1, b2, b3⟩ := hI.2.1.1 r hr
  obtain ⟨d1, d2, d3⟩ := hI.2.1.1 t ht
  simp only [dI_in hr (by omega : (6 : Nat) < 2 ^ 31), dI_in ht (by omega : (6 : Nat) < 2 ^ 31), dk_gd_t, nI_clamp (by omega : r < 2 ^ 31), nI_clamp (by omega : t < 2 ^ 31)]
  rcases b2 with b2 | ⟨z, hz, b2⟩
  · simp only [c_miss (b1.trans b2), some_bind', i_10, if_false, q_found1]
    refine ⟨_, _, _, rfl, ?_, dk_I_fn (f := 1) (by omega) hI⟩
    rw [q_fnd_ne _ _ (by omega) (by omega), b2, if_pos (by decide), q_notes1]
    rfl
  simp only [c_there (b1.trans b2) (by omega), some_bind', if_true]
  rcases d2 with d2 | ⟨y, hy, d2⟩
  · simp only [c_miss (d1.trans d2), some_bind', i_10, if_false, q_found1]
    refine ⟨_, _, _, rfl, ?_, dk_I_fn (f := 1) (by omega) hI⟩
    rw [q_fnd_ne _ _ (by omega) (by omega), b2, if_neg (by exact nI_pos (by omega)), d2, if_neg m1_neg, q_notes1]
    rfl
  simp only [c_there (d1.trans d2) (by omega), some_bind', if_true]
  -- what the model asks
  have hM : ∀ G : dk_S, G.1 84 = S.1 84 → ¬ (p_span a2 a5 z ∧ p_span a4 a5 y) → (if G.1 84 r < 0 then (fX9_notes 1 G).bind (fun r7 => some (r7.1, r7.2)) else if 0 ≤ G.1 84 t then if a2 < 0 then (fX9_notes 2 G).bind (fun r10 => some (r10.1, r10.2)) else if a4 < 0 then (fX9_notes 2 G).bind (fun r12 => some (r12.1, r12.2)) else if 0 < (lg_cmp (a2.toInt64 + a5.toInt64) ((G.1 84 r).toInt64)) then (fX9_notes 2 G).bind (fun r14 => some (r14.1, r14.2)) else if (lg_cmp (a4.toInt64 + a5.toInt64) ((G.1 84 t).toInt64)) ≤ 0 then fX9_copy_L104 (nI r) a2 (nI t) a4 a5 (fun t16 : dk_S => fX9_copy_L136 (nI t) a4 a5 dk_FU 0 t16) dk_FU 0 G else (fX9_notes 2 G).bind (fun r22 => some (r22.1, r22.2)) else (fX9_notes 1 G).bind (fun r23 => some (r23.1, r23.2))) = some (-3, q_nts G 2) := by
    intro G hG hno
    rw [hG, b2, d2, if_neg (nI_pos (by omega)), if_pos (nI_ge0 (by omega)), q_notes2]
    simp only [some_bind']
    have hz0 : (0 : Int32).toInt = 0 := rfl
    by_cases q1 : a2 < 0
    · rw [if_pos q1]
    rw [if_neg q1]
    by_cases q2 : a4 < 0
    · rw [if_pos q2]
    rw [if_neg q2]
    have q1' := q1
    have q2' := q2
    rw [i32_lt, hz0] at q1' q2'
    by_cases q3 : 0 < lg_cmp (a2.toInt64 + a5.toInt64) (nI z).toInt64
    · rw [if_pos q3]
    rw [if_neg q3]
    by_cases q4 : lg_cmp (a4.toInt64 + a5.toInt64) (nI y).toInt64 ≤ 0
    · exfalso
      apply hno
      rw [dk_cmp_gt, l_add, Int32.toInt_toInt64, nI_toInt (by omega)] at q3
      rw [dk_cmp_le, l_add, Int32.toInt_toInt64, nI_toInt (by omega)] at q4
      exact ⟨⟨by omega, by omega⟩, ⟨by omega, by omega⟩⟩
    · rw [if_neg q4]
  rcases c_span (b1.trans b2) hz a2 a5 h3 with ⟨p1, e1⟩ | ⟨p1, e1⟩
  rotate_left
  · rw [e1]
    simp only [some_bind', if_true, q_found2]
    refine ⟨_, _, _, rfl, ?_, dk_I_fn (f := 2) (by omega) hI⟩
    exact hM _ (q_fnd_ne _ _ (by omega) (by omega)) (fun q => p1 q.1)
  rw [e1]
  simp only [some_bind', i_10, if_false]
  rcases c_span (d1.trans d2) hy a4 a5 h3 with ⟨p2, e2⟩ | ⟨p2, e2⟩
  rotate_left
  · rw [e2]
    simp only [some_bind', if_true, q_found2]
    refine ⟨_, _, _, rfl, ?_, dk_I_fn (f := 2) (by omega) hI⟩
    exact hM _ (q_fnd_ne _ _ (by omega) (by omega)) (fun q => p2 q.2)
  rw [e2]
  simp only [some_bind', i_10, if_false]
  have hz0 : (0 : Int32).toInt = 0 := rfl
  have h3' := h3
  rw [i32_le, hz0] at h3'
  obtain ⟨c, hc, rfl⟩ := nI_of (x := a5) (by rw [i32_lt, hz0]; omega)
  obtain ⟨i0, hi0, rfl⟩ := nI_of (x := a2) (by rw [i32_lt, hz0]; have := p1.1; omega)
  obtain ⟨j0, hj0, rfl⟩ := nI_of (x := a4) (by rw [i32_lt, hz0]; have := p2.1; omega)
  have g1 : i0 + c ≤ z := by have := p1.2; rw [nI_toInt hi0, nI_toInt hc] at this; omega
  have g2 : j0 + c ≤ y := by have := p2.2; rw [nI_toInt hj0, nI_toInt hc] at this; omega
  have hcp : dk_cpok (nI i0) (nI j0) (nI c) 60 60 = true := decide_eq_true ⟨nI_pos hi0, nI_pos hj0, nI_pos hc, by rw [nI_clamp hi0, nI_clamp hc]; omega, by rw [nI_clamp hj0, nI_clamp hc]; omega⟩
  rw [hcp, dk_gd_t, dk_lt_eq, nI_clamp hi0, nI_clamp hj0, nI_clamp hc]
  generalize hG : dk_sr S (31 + 2 * t + 1) (va_cpy (S.1 (31 + 2 * r + 1)) (S.1 (31 + 2 * t + 1)) i0 j0 c) = G
  have hne : ∀ a, ¬ a = 31 + 2 * t + 1 → G.1 a = S.1 a := fun a ha => by rw [← hG]; exact dk_sr_ne _ _ ha
  have hG2 : G.2 = S.2 := by rw [← hG]; rfl
  have hGt : G.1 (31 + 2 * t + 1) = va_cpy (S.1 (31 + 2 * r + 1)) (S.1 (31 + 2 * t + 1)) i0 j0 c := by rw [← hG]; exact dk_sr_same _ _ _
  have m1 := e_cp1 (nI t) (nI j0) r i0 c hr (by omega) (fun t16 : dk_S => fX9_copy_L136 (nI t) (nI j0) (nI c) dk_FU 0 t16) dk_FU 0 G (by omega) (by have := dk_FU_ge; omega)
  rw [nI_0] at m1
  generalize hG3 : dk_sr G 86 (fun j => if 0 ≤ j ∧ j < c then G.1 85 (60 * r + (i0 + j)) else G.1 86 j) = G3 at m1
  have m2 := e_cp2 t j0 c ht (by omega) dk_FU 0 G3 (by omega) (by have := dk_FU_ge; omega)
  rw [nI_0] at m2
  have hne3 : ∀ a, ¬ a = 86 → G3.1 a = G.1 a := fun a ha => by rw [← hG3]; exact dk_sr_ne _ _ ha
  have h386 : G3.1 86 = (fun j => if 0 ≤ j ∧ j < c then G.1 85 (60 * r + (i0 + j)) else G.1 86 j) := by rw [← hG3]; exact dk_sr_same _ _ _
  refine ⟨1, _, dk_sr G3 85 (fun q => if 60 * t + j0 + 0 ≤ q ∧ q < 60 * t + j0 + c then G3.1 86 (q - (60 * t + j0)) else G3.1 85 q), rfl, ?_, ?_⟩
  · rw [hne 84 (by omega), b2, d2, if_neg (nI_pos (by omega)), if_pos (nI_ge0 (by omega)), if_neg (nI_pos hi0), if_neg (nI_pos hj0), if_neg, if_pos, m1, m2]
    · rw [dk_cmp_le, l_add, Int32.toInt_toInt64, nI_toInt hj0, nI_toInt hc, nI_toInt (by omega)]; omega
    · rw [dk_cmp_gt, l_add, Int32.toInt_toInt64, nI_toInt hi0, nI_toInt hc, nI_toInt (by omega)]; omega
  · refine dk_I_R hI (i_A_congr (S := S) ?_ ?_ ?_ ?_ ?_ hI.1) ?_ (fun a ha => ?_) ?_
    · rw [dk_sr_ne _ _ (by omega), hne3 _ (by omega), hne _ (by omega)]
    · rw [dk_sr_ne _ _ (by omega), hne3 _ (by omega), hne _ (by omega)]
    · rw [dk_sr_ne _ _ (by omega), hne3 _ (by omega), hne _ (by omega)]
    · rw [dk_sr_ne _ _ (by omega), hne3 _ (by omega), hne _ (by omega)]
    · rw [dk_sr_2, ← hG3, dk_sr_2, hG2]
    · intro q hq
      obtain ⟨e1, e2, e3⟩ := hI.2.1.1 q hq
      rw [dk_sr_ne _ _ (by omega : ¬ 31 + 2 * q = 85), dk_sr_ne _ _ (by omega : ¬ 84 = 85), dk_sr_ne _ _ (by omega : ¬ 32 + 2 * q = 85), dk_sr_same, hne3 _ (by omega : ¬ 31 + 2 * q = 86), hne3 _ (by omega : ¬ 84 = 86), hne3 _ (by omega : ¬ 32 + 2 * q = 86), hne3 85 (by omega), hne _ (by omega : ¬ 31 + 2 * q = 31 + 2 * t + 1), hne 84 (by omega), hne 85 (by omega), h386]
      refine ⟨e1, e2, fun j hj => ?_⟩
      by_cases hqt : q = t
      · subst hqt
        rw [show 32 + 2 * q = 31 + 2 * q + 1 by omega, hGt]
        unfold va_cpy
        by_cases hj2 : j0 ≤ j ∧ j < j0 + c
        · rw [if_pos hj2, if_pos (by omega)]
          show _ = if _ then _ else _
          rw [if_pos (by omega), hne 85 (by omega), show 60 * r + (i0 + (60 * q + j - (60 * q + j0))) = 60 * r + (i0 + (j - j0)) by omega, ← b3 (i0 + (j - j0)) (by omega), show 32 + 2 * r = 31 + 2 * r + 1 by omega]
        · rw [if_neg hj2, if_neg (by omega), ← e3 j hj, show 32 + 2 * q = 31 + 2 * q + 1 by omega]
      · rw [hne _ (by omega), if_neg (by omega)]
        exact e3 j hj
    · rw [dk_sr_ne _ _ (by omega), hne3 _ (by omega), hne _ (by omega)]
    · rw [dk_sr_2, ← hG3, dk_sr_2, hG2]
