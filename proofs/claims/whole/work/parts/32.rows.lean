/-! rows: row, lay, at, tear, copy, mean -/
theorem e_fill (k n : Nat) (v : Int32) (hn : n < 2 ^ 31) : ∀ (m i : Nat) (S : dk_S), i ≤ n → n - i < m → fJ7_fill_53178_L5 k n v (nI n) m (nI i) S = some (dk_sr S k (fun j => if i ≤ j ∧ j < n then v else S.1 k j)) := by
  intro m
  induction m with
  | zero => intro i S h1 h2; omega
  | succ m ih =>
    intro i S h1 h2
    rw [fJ7_fill_53178_L5]
    by_cases h : n ≤ i
    · rw [if_pos ((nI_leI hn (by omega)).mpr h)]
      congr 1
      conv => lhs; rw [← dk_sr_id S k]
      congr 1
      funext j
      rw [if_neg (by omega)]
    · rw [if_neg (fun q => h ((nI_leI hn (by omega)).mp q)), dI_in (by omega) hn, dk_gd_t, dk_lt_eq, nI_1, nI_clamp (by omega), ih (i + 1) _ (by omega) (by omega), dk_si_eq, dk_sr_sr, dk_sr_same]
      congr 2
      funext j
      by_cases hj : j = i
      · subst hj
        rw [if_neg (by omega), if_pos (by omega), upd_same]
      · rw [upd_ne _ _ hj]
        by_cases hj2 : i ≤ j ∧ j < n
        · rw [if_pos hj2, if_pos (by omega)]
        · rw [if_neg hj2, if_neg (by omega)]
theorem q_fill (k n : Nat) (v : Int32) (S : dk_S) (hn : n < 20000) : fJ7_fill_53178 k n v S = some (dk_sr S k (fun j => if j < n then v else S.1 k j)) := by
  unfold fJ7_fill_53178
  rw [dk_lt_eq, show Int32.ofNat n = nI n from rfl, show (0 : Int32) = nI 0 from rfl, e_fill k n v (by omega) dk_FU 0 S (by omega) (by have := dk_FU_ge; omega)]
  congr 2
  funext j
  by_cases h : j < n
  · rw [if_pos (by omega), if_pos h]
  · rw [if_neg (by omega), if_neg h]
def q_ren (S : dk_S) (k : Nat) (x : Int32) : dk_S := dk_sr (dk_sr S (k + 1) (fun j => if j < 60 then 0 else S.1 (k + 1) j)) k (upd (S.1 k) 1 x)
theorem q_renew (k : Nat) (x : Int32) (S : dk_S) : fX5_renew k x S = some (q_ren S k x) := by
  unfold fX5_renew
  rw [q_fill _ _ _ _ (by omega), some_bind', dk_lt_eq, dk_si_eq, dk_sr_ne _ _ (by omega)]
  rfl
theorem e_mrow (r : Nat) (x2 : Int32) (hr : r < 6) : ∀ (m i : Nat) (S : dk_S), i ≤ 60 → 60 - i < m → fX9_row_L34 (nI r) x2 m (nI i) S = some (x2, dk_sr S 85 (fun j => if 60 * r + i ≤ j ∧ j < 60 * r + 60 then 0 else S.1 85 j)) := by
  intro m
  induction m with
  | zero => intro i S h1 h2; omega
  | succ m ih =>
    intro i S h1 h2
    rw [fX9_row_L34, show (60 : Int32) = nI 60 from rfl, nI_mul, nI_add]
    by_cases h : 60 ≤ i
    · rw [if_pos ((nI_leI (by omega) (by omega)).mpr h)]
      congr 2
      conv => lhs; rw [← dk_sr_id S 85]
      congr 1
      funext j
      rw [if_neg (by omega)]
    · rw [if_neg (fun q => h ((nI_leI (by omega) (by omega)).mp q)), dI_in (by omega) (by omega), dk_gd_t, dk_lt_eq, nI_1, nI_clamp (by omega), ih (i + 1) _ (by omega) (by omega), dk_si_eq, dk_sr_sr, dk_sr_same]
      congr 3
      funext j
      by_cases hj : j = 60 * r + i
      · subst hj
        rw [if_neg (by omega), if_pos (by omega), upd_same]
      · rw [upd_ne _ _ hj]
        by_cases hj2 : 60 * r + i ≤ j ∧ j < 60 * r + 60
        · rw [if_pos hj2, if_pos (by omega)]
        · rw [if_neg hj2, if_neg (by omega)]
theorem q_mrow (r : Nat) (x2 : Int32) (hr : r < 6) (S : dk_S) : fX9_row_L34 (nI r) x2 dk_FU 0 S = some (x2, dk_sr S 85 (fun j => if 60 * r ≤ j ∧ j < 60 * r + 60 then 0 else S.1 85 j)) := by
  have h := e_mrow r x2 hr dk_FU 0 S (by omega) (by have := dk_FU_ge; omega)
  rw [nI_0] at h
  exact h
theorem b_row {x : Int32} (h : 0 ≤ x ∧ x ≤ 5) : ∃ r, r < 6 ∧ x = nI r := by
  obtain ⟨j, h1, h2⟩ := dI_of (n := 5) (by omega) h.1 h.2
  exact ⟨j, by omega, h2⟩
theorem b_4 {x : Int32} (h : 0 ≤ x ∧ x ≤ 3) : ∃ r, r < 4 ∧ x = nI r := by
  obtain ⟨j, h1, h2⟩ := dI_of (n := 3) (by omega) h.1 h.2
  exact ⟨j, by omega, h2⟩
theorem b_60 {x : Int32} (h0 : 0 ≤ x) (h1 : x ≤ 60) : ∃ r, r ≤ 60 ∧ x = nI r := dI_of (n := 60) (by omega) h0 h1
theorem pr_row (a1 : Int32) (a2 : Int32) {n : Nat} {S : dk_S} (hn : n < 512) (hI : dk_I n S) : ∃ (r : Int32) (S1 S2 : dk_S), fX8_row a1 a2 S = some (r, S1) ∧ fX9_row a1 a2 S1 = some (r, S2) ∧ dk_I (n + 1) S2 := by
  unfold fX8_row fX9_row
  simp only [q_noRow, q_isRow, some_bind']
  by_cases h1 : 0 ≤ a1 ∧ a1 ≤ 5
  · by_cases h2 : a2 ≤ 60
    · by_cases h3 : 0 ≤ a2
      · simp only [h1, h2, h3, and_self, if_true, if_false, i_10]
        obtain ⟨r, hr, rfl⟩ := b_row h1
        obtain ⟨z, hz, rfl⟩ := b_60 h3 h2
        simp only [dI_in hr (by omega : (6 : Nat) < 2 ^ 31), dk_gd_t, nI_clamp (by omega : r < 2 ^ 31), q_renew, some_bind', dk_lt_eq]
        refine ⟨_, _, dk_sr (dk_si (q_ren S (31 + 2 * r) (nI z)) 84 r (nI z)) 85 (fun j => if 60 * r ≤ j ∧ j < 60 * r + 60 then 0 else (dk_si (q_ren S (31 + 2 * r) (nI z)) 84 r (nI z)).1 85 j), rfl, ?_, ?_⟩
        · exact q_mrow r (nI z) hr _
        · refine dk_I_R hI (i_A_congr (S := S) ?_ ?_ ?_ ?_ rfl hI.1) ?_ (fun a ha => ?_) rfl
          · simp (disch := omega) only [q_ren, dk_si_eq, dk_sr_ne]
          · simp (disch := omega) only [q_ren, dk_si_eq, dk_sr_ne]
          · simp (disch := omega) only [q_ren, dk_si_eq, dk_sr_ne]
          · simp (disch := omega) only [q_ren, dk_si_eq, dk_sr_ne]
          · intro q hq
            obtain ⟨b1, b2, b3⟩ := hI.2.1.1 q hq
            by_cases hqr : q = r
            · subst hqr
              simp (disch := omega) only [q_ren, dk_si_eq, dk_sr_ne, dk_sr_same, upd_same]
              refine ⟨trivial, Or.inr ⟨z, hz, rfl⟩, fun i hi => ?_⟩
              rw [show 32 + 2 * q = 31 + 2 * q + 1 by omega, dk_sr_same, if_pos hi, if_pos (by omega)]
            · simp (disch := omega) only [q_ren, dk_si_eq, dk_sr_ne, dk_sr_same, upd_ne]
              refine ⟨b1, b2, fun i hi => ?_⟩
              rw [if_neg (by omega)]
              exact b3 i hi
          · simp (disch := omega) only [q_ren, dk_si_eq, dk_sr_ne]
      · simp only [h1, h2, h3, and_self, if_true, if_false, i_10]
        rw [show (5 : Int32) = nI 5 from rfl]
        simp only [q_found (by omega : 5 < 6), some_bind', q_notes (by omega : 5 < 6)]
        exact ⟨_, _, _, rfl, rfl, dk_I_fn (by omega) hI⟩
    · simp only [h1, h2, and_self, if_true, if_false, i_10]
      exact ⟨_, _, _, rfl, rfl, dk_I_up hI⟩
  · simp only [h1, if_false, if_true, i_10]
    exact ⟨_, _, _, rfl, rfl, dk_I_up hI⟩
theorem q_found1 (S : dk_S) : fX8_found 1 S = some (-3, q_fnd S 1) := q_found (f := 1) (by decide) S
theorem q_found2 (S : dk_S) : fX8_found 2 S = some (-3, q_fnd S 2) := q_found (f := 2) (by decide) S
theorem q_found3 (S : dk_S) : fX8_found 3 S = some (-3, q_fnd S 3) := q_found (f := 3) (by decide) S
theorem q_found4 (S : dk_S) : fX8_found 4 S = some (-3, q_fnd S 4) := q_found (f := 4) (by decide) S
theorem q_found5 (S : dk_S) : fX8_found 5 S = some (-3, q_fnd S 5) := q_found (f := 5) (by decide) S
theorem q_notes1 (S : dk_S) : fX9_notes 1 S = some (-3, q_nts S 1) := q_notes (f := 1) (by decide) S
theorem q_notes2 (S : dk_S) : fX9_notes 2 S = some (-3, q_nts S 2) := q_notes (f := 2) (by decide) S
theorem q_notes3 (S : dk_S) : fX9_notes 3 S = some (-3, q_nts S 3) := q_notes (f := 3) (by decide) S
theorem q_notes4 (S : dk_S) : fX9_notes 4 S = some (-3, q_nts S 4) := q_notes (f := 4) (by decide) S
theorem q_notes5 (S : dk_S) : fX9_notes 5 S = some (-3, q_nts S 5) := q_notes (f := 5) (by decide) S
theorem q_fnd_ne (S : dk_S) (f : Nat) {a : Nat} (h : ¬ a = 0) (h2 : ¬ a = 30) : (q_fnd S f).1 a = S.1 a := by
  unfold q_fnd
  rw [dk_sr_ne _ _ h2, dk_sr_ne _ _ h]
theorem m1_neg : ¬ (0 : Int32) ≤ -1 := by decide
theorem nI_ge0 {z : Nat} (h : z < 2 ^ 31) : (0 : Int32) ≤ nI z := nI_pos' h
theorem c_miss {S : dk_S} {k : Nat} (h : S.1 k 1 = -1) : fX5_isMissing k S = some (1, S) := by
  unfold fX5_isMissing
  rw [h, if_neg m1_neg]
theorem c_there {S : dk_S} {k z : Nat} (h : S.1 k 1 = nI z) (hz : z < 2 ^ 31) : fX5_isMissing k S = some (0, S) := by
  unfold fX5_isMissing
  rw [h, if_pos (nI_ge0 hz)]
theorem c_has_iff {x : Int32} {z : Nat} (hz : z ≤ 80) : (0 ≤ x ∧ x ≤ nI z - 1) ↔ ¬ x < 0 ∧ ¬ nI z ≤ x := by
  have h1 : (nI z).toInt = z := nI_toInt (by omega)
  have h2 : (nI z - 1).toInt = (z : Int) - 1 := by
    have h3 : (1 : Int32).toInt = 1 := rfl
    rw [i32_sub (by rw [h1, h3]; omega) (by rw [h1, h3]; omega), h1, h3]
  rw [i32_le, i32_le, i32_nlt, i32_le, i32_le, h2, h1]
  omega
theorem c_has {S : dk_S} {k z : Nat} (h : S.1 k 1 = nI z) (hz : z ≤ 80) (x : Int32) : fX5_has k x S = some (if 0 ≤ x ∧ x ≤ nI z - 1 then 1 else 0, S) := by
  unfold fX5_has
  rw [h]
  by_cases h1 : x < 0
  · rw [if_pos h1, if_neg (fun q => ((c_has_iff hz).mp q).1 h1)]
  · by_cases h2 : nI z ≤ x
    · rw [if_neg h1, if_pos h2, if_neg (fun q => ((c_has_iff hz).mp q).2 h2)]
    · rw [if_neg h1, if_neg h2, if_pos ((c_has_iff hz).mpr ⟨h1, h2⟩)]
theorem b_has {x : Int32} {z : Nat} (hz : z ≤ 80) (h : 0 ≤ x ∧ x ≤ nI z - 1) : ∃ i, i < z ∧ x = nI i := by
  obtain ⟨h1, h2⟩ := (c_has_iff hz).mp h
  obtain ⟨j, hj, rfl⟩ := nI_of h1
  refine ⟨j, ?_, rfl⟩
  rcases Nat.lt_or_ge j z with q | q
  · exact q
  · exact absurd ((nI_leI (by omega) hj).mpr q) h2
theorem q_rowAt {r i : Nat} (hr : r < 6) (hi : i < 60) (S : dk_S) : fX9_rowAt (nI r) (nI i) S = some (S.1 85 (60 * r + i), S) := by
  unfold fX9_rowAt
  rw [show (60 : Int32) = nI 60 from rfl, nI_mul, nI_add, dI_in (by omega) (by omega), nI_clamp (by omega)]
  rfl
theorem pr_at (a1 : Int32) (a2 : Int32) {n : Nat} {S : dk_S} (hn : n < 512) (hI : dk_I n S) : ∃ (r : Int32) (S1 S2 : dk_S), fX8_at a1 a2 S = some (r, S1) ∧ fX9_at a1 a2 S1 = some (r, S2) ∧ dk_I (n + 1) S2 := by
  unfold fX8_at fX9_at
  simp only [q_noRow, q_isRow, some_bind']
  by_cases h1 : 0 ≤ a1 ∧ a1 ≤ 5
  · simp only [h1, and_self, if_true, if_false, i_10]
    obtain ⟨r, hr, rfl⟩ := b_row h1
    obtain ⟨b1, b2, b3⟩ := hI.2.1.1 r hr
    simp only [dI_in hr (by omega : (6 : Nat) < 2 ^ 31), dk_gd_t, nI_clamp (by omega : r < 2 ^ 31)]
    rcases b2 with b2 | ⟨z, hz, b2⟩
    · simp only [c_miss (b1.trans b2), some_bind', i_10, if_false, q_found1]
      refine ⟨_, _, _, rfl, ?_, dk_I_fn (f := 1) (by omega) hI⟩
      rw [q_fnd_ne _ _ (by omega) (by omega), b2, if_neg m1_neg, q_notes1]
      rfl
    · simp only [c_there (b1.trans b2) (by omega), some_bind', if_true, c_has (b1.trans b2) (by omega : z ≤ 80)]
      by_cases h2 : 0 ≤ a2 ∧ a2 ≤ nI z - 1
      · simp only [if_pos h2, i_10, if_false, q_tell, some_bind', q_in, q_tells]
        obtain ⟨i, hi, rfl⟩ := b_has (by omega) h2
        simp only [dI_in (by omega : i < 60) (by omega : (60 : Nat) < 2 ^ 31), dk_gd_t, nI_clamp (by omega : i < 2 ^ 31)]
        refine ⟨_, _, _, rfl, ?_, dk_I_tell (v := S.1 (31 + 2 * r + 1) i) hI⟩
        rw [dk_sr_ne _ _ (by omega), b2, if_pos (nI_ge0 (by omega)), if_pos h2, if_neg (by decide), q_rowAt hr (by omega)]
        simp only [some_bind']
        rw [dk_sr_ne _ _ (by omega : ¬ 85 = 0), ← b3 i (by omega)]
        rw [show 32 + 2 * r = 31 + 2 * r + 1 by omega]
      · simp only [if_neg h2, if_true, q_found2, some_bind', q_in]
        refine ⟨_, _, _, rfl, ?_, dk_I_fn (f := 2) (by omega) hI⟩
        rw [q_fnd_ne _ _ (by omega) (by omega), b2, if_pos (nI_ge0 (by omega)), if_neg h2, if_pos rfl, q_notes2]
        rfl
  · simp only [h1, if_false, if_true, i_10]
    exact ⟨_, _, _, rfl, rfl, dk_I_up hI⟩
