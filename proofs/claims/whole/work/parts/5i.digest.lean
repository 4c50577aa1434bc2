/-! digest -/
def z_n (g : Nat → Int64 → Int64) : Nat → Nat → Int64 → Int64
  | 0, _, h => h
  | c + 1, i, h => z_n g c (i + 1) (g i h)
theorem z_n_congr {f g : Nat → Int64 → Int64} : ∀ (c i : Nat) (h : Int64), (∀ j h, i ≤ j → j < i + c → f j h = g j h) → z_n f c i h = z_n g c i h := by
  intro c
  induction c with
  | zero => intro i h q; rfl
  | succ c ih =>
    intro i h q
    rw [z_n, z_n, q i h (by omega) (by omega), ih (i + 1) _ (fun j h h1 h2 => q j h (by omega) (by omega))]
def z_v (v : Nat → Int32) (i : Nat) (h : Int64) : Int64 := 31 * h + (v i).toInt64
def d_H (S : dk_S) (h : Int64) : dk_S := dk_sl S 82 40 h
theorem d_H_1 (S : dk_S) (h : Int64) : (d_H S h).1 = S.1 := rfl
theorem q_mix (v h : Int64) (S : dk_S) : fX9_mix v (d_H S h) = some (d_H S (31 * h + v)) := by
  unfold fX9_mix
  rw [dk_lt_eq]
  have e1 : (d_H S h).2 82 40 = h := by unfold d_H; rw [dk_sl_eq, dk_sq_2, if_pos rfl]; simp [vp_updL]
  rw [e1]
  congr 1
  unfold d_H
  rw [dk_sl_eq, dk_sl_eq, dk_sl_eq]
  refine Prod.ext rfl ?_
  funext q
  simp only [dk_sq_2]
  by_cases hq : q = 82
  · simp only [if_pos hq, if_true]
    funext j
    unfold vp_updL
    by_cases hj : j = 40
    · rw [if_pos hj, if_pos hj]
    · rw [if_neg hj, if_neg hj, if_neg hj]
  · simp only [if_neg hq]
def w_t (x : Int32) (S : dk_S) : Int32 := if x = 0 then S.1 98 7 else if x = 1 then S.1 98 8 else if x = 2 then S.1 98 9 else if x = 3 then S.1 98 10 else if x = 4 then S.1 98 6 else if x = 5 then S.1 98 11 else S.1 98 12
theorem q_wt (x : Int32) (S : dk_S) : fX9_walkTells x S = some (w_t x S, S) := by
  unfold fX9_walkTells w_t
  by_cases h0 : x = 0
  · rw [if_pos h0, if_pos h0]
  by_cases h1 : x = 1
  · rw [if_neg h0, if_pos h1, if_neg h0, if_pos h1]
  by_cases h2 : x = 2
  · rw [if_neg h0, if_neg h1, if_pos h2, if_neg h0, if_neg h1, if_pos h2]
  by_cases h3 : x = 3
  · rw [if_neg h0, if_neg h1, if_neg h2, if_pos h3, if_neg h0, if_neg h1, if_neg h2, if_pos h3]
  by_cases h4 : x = 4
  · rw [if_neg h0, if_neg h1, if_neg h2, if_neg h3, if_pos h4, if_neg h0, if_neg h1, if_neg h2, if_neg h3, if_pos h4]
  by_cases h5 : x = 5
  · rw [if_neg h0, if_neg h1, if_neg h2, if_neg h3, if_neg h4, if_pos h5, if_neg h0, if_neg h1, if_neg h2, if_neg h3, if_neg h4, if_pos h5]
  rw [if_neg h0, if_neg h1, if_neg h2, if_neg h3, if_neg h4, if_neg h5, if_neg h0, if_neg h1, if_neg h2, if_neg h3, if_neg h4, if_neg h5]
/-- what each thing adds -/
def dN (S : dk_S) (i : Nat) (h : Int64) : Int64 := 31 * h + (m_cd (nI i) S).toInt64
def dW (S : dk_S) (k : Nat) (h : Int64) : Int64 := if S.1 89 k = 0 then 31 * h + (-1) else z_n (z_v (fun j => S.1 90 (7 * k + j))) 7 0 h
def dB (S : dk_S) (k : Nat) (h : Int64) : Int64 := if S.1 91 k = 0 then 31 * h + (-1) else z_n (z_v (fun j => S.1 92 (101 * k + j))) 101 0 h
def dC (S : dk_S) (h : Int64) : Int64 := if S.1 97 0 = 0 then 31 * h + (-1) else z_n (z_v (fun j => w_t (nI j) S)) 7 0 h
def dR (S : dk_S) (r : Nat) (h : Int64) : Int64 := z_n (z_v (fun j => S.1 85 (60 * r + j))) (S.1 84 r).toNatClampNeg 0 (31 * h + (S.1 84 r).toInt64)
def dT (S : dk_S) (t : Nat) (h : Int64) : Int64 := z_n (z_v (fun j => S.1 88 (80 * t + j))) (S.1 87 t).toNatClampNeg 0 (31 * h + (S.1 87 t).toInt64)
def dD (S : dk_S) : Int64 := z_n (dT S) 4 0 (z_n (dR S) 6 0 (dC S (z_n (dB S) 4 0 (z_n (dW S) 4 0 (z_n (dN S) 7 0 17)))))
theorem l_m1 (x : Int64) : x - 1 = x + (-1) := by rw [Int64.sub_eq_add_neg]
theorem l_c6 {S : dk_S} (hX : i_X S) (kx : (Int64 × dk_S) → Option (Int64 × dk_S)) : ∀ (m i : Nat) (h : Int64), i ≤ 7 → 7 - i < m → fX8_digest_L6 kx m h (nI i) S = kx ((z_n (dN S) (7 - i) i h), S) := by
  intro m
  induction m with
  | zero => intro i h h1 h2; omega
  | succ m ih =>
    intro i h h1 h2
    rw [fX8_digest_L6]
    by_cases hi : i = 7
    · subst hi
      rw [if_pos (show (6 : Int32) < nI 7 from by decide)]
      rfl
    · rw [if_neg (show ¬ (6 : Int32) < nI i from fun q => by have := (nI_ltI (a := 6) (by omega) (by omega)).mp q; omega), show 7 - i = (7 - (i + 1)) + 1 by omega, z_n, ← ih (i + 1) _ (by omega) (by omega)]
      rw [q_count (k_06_of ⟨nI_ge0 (by omega), (nI_leI (b := 6) (by omega) (by omega)).mpr (by omega)⟩) hX, some_bind', dk_lt_eq, nI_1]
      rfl
theorem l_x1 {S : dk_S} {k : Nat} (hk : k < 4) (hW : i_W S) : ∀ (m i : Nat) (h : Int64), i ≤ 7 → 7 - i < m → fX1_digestOn_L20 (51 + 2 * k) m h (nI i) S = some ((z_n (z_v (fun j => S.1 90 (7 * k + j))) (7 - i) i h), S) := by
  intro m
  induction m with
  | zero => intro i h h1 h2; omega
  | succ m ih =>
    intro i h h1 h2
    rw [fX1_digestOn_L20]
    by_cases hi : i = 7
    · subst hi
      rw [if_pos (show (6 : Int32) < nI 7 from by decide)]
      rfl
    · rw [if_neg (show ¬ (6 : Int32) < nI i from fun q => by have := (nI_ltI (a := 6) (by omega) (by omega)).mp q; omega), show 7 - i = (7 - (i + 1)) + 1 by omega, z_n, ← ih (i + 1) _ (by omega) (by omega)]
      have hv : fX1_value (51 + 2 * k) (nI i) S = some (S.1 90 (7 * k + i), S) := by
        obtain ⟨-, -, w3, w4, -⟩ := hW k hk
        unfold fX1_value
        simp only [q_isOutside, some_bind']
        by_cases h5 : i ≤ 5
        · have hP : 0 ≤ nI i ∧ nI i ≤ 5 := ⟨nI_ge0 (by omega), (nI_leI (b := 5) (by omega) (by omega)).mpr h5⟩
          simp only [if_pos hP, if_true]
          rw [dI_in (by omega) (by omega), dk_gd_t, nI_clamp (by omega), show 51 + 2 * k + 1 = 52 + 2 * k by omega, w3 i (by omega)]
        · have hP : ¬ (0 ≤ nI i ∧ nI i ≤ 5) := fun q => h5 ((nI_leI (b := 5) (by omega) (by omega)).mp q.2)
          simp only [if_neg hP, i_10, if_false]
          rw [w4, show i = 6 by omega]
      rw [hv, some_bind', dk_lt_eq, nI_1]
      rfl
theorem q_dg1 {S : dk_S} {k : Nat} (hk : k < 4) (hW : i_W S) (h : Int64) : fX1_digestOn (51 + 2 * k) h S = some (dW S k h, S) := by
  unfold fX1_digestOn dW
  rw [(hW k hk).1]
  by_cases g : S.1 89 k = 0
  · rw [if_pos g, if_pos g, l_m1]
  · rw [if_neg g, if_neg g]
    have := l_x1 hk hW dk_FU 0 h (by omega) (by have := dk_FU_ge; omega)
    rw [nI_0] at this
    exact this
theorem l_c33 {S : dk_S} (hW : i_W S) (kx : (Int64 × dk_S) → Option (Int64 × dk_S)) : ∀ (m i : Nat) (h : Int64), i ≤ 4 → 4 - i < m → fX8_digest_L33 kx m h (nI i) S = kx ((z_n (dW S) (4 - i) i h), S) := by
  intro m
  induction m with
  | zero => intro i h h1 h2; omega
  | succ m ih =>
    intro i h h1 h2
    rw [fX8_digest_L33]
    by_cases hi : i = 4
    · subst hi
      rw [if_pos (show (4 : Int32) ≤ nI 4 from by decide)]
      rfl
    · rw [if_neg (show ¬ (4 : Int32) ≤ nI i from fun q => by have := (nI_leI (a := 4) (by omega) (by omega)).mp q; omega), show 4 - i = (4 - (i + 1)) + 1 by omega, z_n, ← ih (i + 1) _ (by omega) (by omega)]
      rw [dI_in (by omega) (by omega), dk_gd_t, nI_clamp (by omega), q_dg1 (by omega) hW, some_bind', nI_1]
theorem l_x3 {S : dk_S} {k : Nat} (hk : k < 4) (hB : i_B S) : ∀ (m i : Nat) (h : Int64), i ≤ 100 → 100 - i < m → fX3_digestOn_L30 (59 + 2 * k) m h (nI i) S = some ((z_n (z_v (fun j => S.1 92 (101 * k + 1 + j))) (100 - i) i h), S) := by
  intro m
  induction m with
  | zero => intro i h h1 h2; omega
  | succ m ih =>
    intro i h h1 h2
    rw [fX3_digestOn_L30]
    by_cases hi : i = 100
    · subst hi
      rw [if_pos (show (100 : Int32) ≤ nI 100 from by decide)]
      rfl
    · rw [if_neg (show ¬ (100 : Int32) ≤ nI i from fun q => by have := (nI_leI (a := 100) (by omega) (by omega)).mp q; omega), show 100 - i = (100 - (i + 1)) + 1 by omega, z_n, ← ih (i + 1) _ (by omega) (by omega)]
      obtain ⟨-, -, -, b4⟩ := hB k hk
      rw [dI_in (by omega) (by omega), dk_gd_t, nI_clamp (by omega), dk_lt_eq, nI_1, show 59 + 2 * k + 1 = 60 + 2 * k by omega, b4 i (by omega)]
      rfl
theorem z_n_sh (v w : Nat → Int32) : ∀ (c i : Nat) (h : Int64), (∀ j, w (j + 1) = v j) → z_n (z_v w) c (i + 1) h = z_n (z_v v) c i h := by
  intro c
  induction c with
  | zero => intro i h q; rfl
  | succ c ih =>
    intro i h q
    rw [z_n, z_n, ih (i + 1) _ q]
    unfold z_v
    rw [q i]
theorem q_dg3 {S : dk_S} {k : Nat} (hk : k < 4) (hB : i_B S) (h : Int64) : fX3_digestOn (59 + 2 * k) h S = some (dB S k h, S) := by
  unfold fX3_digestOn dB
  obtain ⟨b1, b2, b3, -⟩ := hB k hk
  rw [b1]
  by_cases g : S.1 91 k = 0
  · rw [if_pos g, if_pos g, l_m1]
  · rw [if_neg g, if_neg g, dk_lt_eq]
    have g1 := b3 (b2.resolve_left g)
    have := l_x3 hk hB dk_FU 0 (31 * h + (S.1 (59 + 2 * k) 1).toInt64) (by omega) (by have := dk_FU_ge; omega)
    rw [nI_0] at this
    rw [this, g1.1]
    have e : z_n (z_v (fun j => S.1 92 (101 * k + j))) (100 + 1) 0 h = z_n (z_v (fun j => S.1 92 (101 * k + 1 + j))) 100 0 (31 * h + (S.1 92 (101 * k)).toInt64) := by
      rw [z_n]
      exact z_n_sh (fun j => S.1 92 (101 * k + 1 + j)) (fun j => S.1 92 (101 * k + j)) _ _ _ (fun j => by show S.1 92 (101 * k + (j + 1)) = S.1 92 (101 * k + 1 + j); rw [show 101 * k + (j + 1) = 101 * k + 1 + j by omega])
    exact congrArg (fun x => some (x, S)) e.symm
theorem l_c57 {S : dk_S} (hB : i_B S) (kx : (Int64 × dk_S) → Option (Int64 × dk_S)) : ∀ (m i : Nat) (h : Int64), i ≤ 4 → 4 - i < m → fX8_digest_L57 kx m h (nI i) S = kx ((z_n (dB S) (4 - i) i h), S) := by
  intro m
  induction m with
  | zero => intro i h h1 h2; omega
  | succ m ih =>
    intro i h h1 h2
    rw [fX8_digest_L57]
    by_cases hi : i = 4
    · subst hi
      rw [if_pos (show (4 : Int32) ≤ nI 4 from by decide)]
      rfl
    · rw [if_neg (show ¬ (4 : Int32) ≤ nI i from fun q => by have := (nI_leI (a := 4) (by omega) (by omega)).mp q; omega), show 4 - i = (4 - (i + 1)) + 1 by omega, z_n, ← ih (i + 1) _ (by omega) (by omega)]
      rw [dI_in (by omega) (by omega), dk_gd_t, nI_clamp (by omega), q_dg3 (by omega) hB, some_bind', nI_1]
theorem l_x0 {S : dk_S} (hK : i_C S 5 0) (h97 : S.1 97 0 = 1) : ∀ (m i : Nat) (h : Int64), i ≤ 7 → 7 - i < m → fX0_digestOn_L20 5 m h (nI i) S = some ((z_n (z_v (fun j => w_t (nI j) S)) (7 - i) i h), S) := by
  intro m
  induction m with
  | zero => intro i h h1 h2; omega
  | succ m ih =>
    intro i h h1 h2
    rw [fX0_digestOn_L20]
    by_cases hi : i = 7
    · subst hi
      rw [if_pos (show (6 : Int32) < nI 7 from by decide)]
      rfl
    · rw [if_neg (show ¬ (6 : Int32) < nI i from fun q => by have := (nI_ltI (a := 6) (by omega) (by omega)).mp q; omega), show 7 - i = (7 - (i + 1)) + 1 by omega, z_n, ← ih (i + 1) _ (by omega) (by omega)]
      obtain ⟨v, e1, e2⟩ := e_told (hK.2.2 h97).2.1 (nI i)
      have e3 := e2 S rfl
      rw [q_wt] at e3
      have e4 : w_t (nI i) S = v := congrArg Prod.fst (Option.some.inj e3)
      rw [e1, some_bind', dk_lt_eq, nI_1, ← e4]
      rfl
theorem q_dg0 {S : dk_S} (hK : i_C S 5 0) (h : Int64) : fX0_digestOn 5 h S = some (dC S h, S) := by
  unfold fX0_digestOn dC
  rw [hK.1]
  by_cases g : S.1 97 0 = 0
  · rw [if_pos g, if_pos g, l_m1]
  · rw [if_neg g, if_neg g]
    have := l_x0 hK (hK.2.1.resolve_left g) dk_FU 0 h (by omega) (by have := dk_FU_ge; omega)
    rw [nI_0] at this
    exact this
theorem l_xR {S : dk_S} {r n : Nat} (hr : r < 6) (hR : i_R S) (hn : S.1 84 r = nI n) (hn2 : n ≤ 60) : ∀ (m i : Nat) (h : Int64), i ≤ n → n - i < m → fX5_digestOn_L15 (31 + 2 * r) m h (nI i) S = some (z_n (z_v (fun j => S.1 85 (60 * r + j))) (n - i) i h, S) := by
  obtain ⟨b1, -, b3⟩ := hR r hr
  intro m
  induction m with
  | zero => intro i h h1 h2; omega
  | succ m ih =>
    intro i h h1 h2
    rw [fX5_digestOn_L15, b1, hn]
    by_cases hi : i = n
    · subst hi
      rw [if_pos (Int32.le_refl _), Nat.sub_self]
      rfl
    · rw [if_neg (fun q => by have := (nI_leI (by omega) (by omega)).mp q; omega), show n - i = (n - (i + 1)) + 1 by omega, z_n, ← ih (i + 1) _ (by omega) (by omega), dI_in (by omega) (by omega), dk_gd_t, nI_clamp (by omega), dk_lt_eq, nI_1, show 31 + 2 * r + 1 = 32 + 2 * r by omega, b3 i (by omega)]
      rfl
theorem q_dgR {S : dk_S} {r : Nat} (hr : r < 6) (hR : i_R S) (h : Int64) : fX5_digestOn (31 + 2 * r) h S = some (dR S r h, S) := by
  unfold fX5_digestOn dR
  obtain ⟨b1, b2, -⟩ := hR r hr
  rw [dk_lt_eq]
  rcases b2 with b2 | ⟨n, hn, b2⟩
  · obtain ⟨m, hm⟩ : ∃ m, dk_FU = m + 1 := ⟨dk_FU - 1, by have := dk_FU_ge; omega⟩
    rw [hm, fX5_digestOn_L15, b1, b2, if_pos (by decide)]
    rfl
  · have := l_xR hr hR b2 hn dk_FU 0 (31 * h + (S.1 (31 + 2 * r) 1).toInt64) (by omega) (by have := dk_FU_ge; omega)
    rw [nI_0] at this
    rw [this, b1, b2, nI_clamp (by omega)]
    rfl
theorem l_xT {S : dk_S} {r n : Nat} (hr : r < 4) (hR : i_T S) (hn : S.1 87 r = nI n) (hn2 : n ≤ 80) : ∀ (m i : Nat) (h : Int64), i ≤ n → n - i < m → fX6_digestOn_L15 (43 + 2 * r) m h (nI i) S = some (z_n (z_v (fun j => S.1 88 (80 * r + j))) (n - i) i h, S) := by
  obtain ⟨b1, -, b3⟩ := hR r hr
  intro m
  induction m with
  | zero => intro i h h1 h2; omega
  | succ m ih =>
    intro i h h1 h2
    rw [fX6_digestOn_L15, b1, hn]
    by_cases hi : i = n
    · subst hi
      rw [if_pos (Int32.le_refl _), Nat.sub_self]
      rfl
    · rw [if_neg (fun q => by have := (nI_leI (by omega) (by omega)).mp q; omega), show n - i = (n - (i + 1)) + 1 by omega, z_n, ← ih (i + 1) _ (by omega) (by omega), dI_in (by omega) (by omega), dk_gd_t, nI_clamp (by omega), dk_lt_eq, nI_1, show 43 + 2 * r + 1 = 44 + 2 * r by omega, b3 i (by omega)]
      rfl
theorem q_dgT {S : dk_S} {r : Nat} (hr : r < 4) (hR : i_T S) (h : Int64) : fX6_digestOn (43 + 2 * r) h S = some (dT S r h, S) := by
  unfold fX6_digestOn dT
  obtain ⟨b1, b2, -⟩ := hR r hr
  rw [dk_lt_eq]
  rcases b2 with b2 | ⟨n, hn, b2⟩
  · obtain ⟨m, hm⟩ : ∃ m, dk_FU = m + 1 := ⟨dk_FU - 1, by have := dk_FU_ge; omega⟩
    rw [hm, fX6_digestOn_L15, b1, b2, if_pos (by decide)]
    rfl
  · have := l_xT hr hR b2 hn dk_FU 0 (31 * h + (S.1 (43 + 2 * r) 1).toInt64) (by omega) (by have := dk_FU_ge; omega)
    rw [nI_0] at this
    rw [this, b1, b2, nI_clamp (by omega)]
    rfl
theorem l_c90 {S : dk_S} (hR : i_R S) (kx : (Int64 × dk_S) → Option (Int64 × dk_S)) : ∀ (m i : Nat) (h : Int64), i ≤ 6 → 6 - i < m → fX8_digest_L90 kx m h (nI i) S = kx ((z_n (dR S) (6 - i) i h), S) := by
  intro m
  induction m with
  | zero => intro i h h1 h2; omega
  | succ m ih =>
    intro i h h1 h2
    rw [fX8_digest_L90]
    by_cases hi : i = 6
    · subst hi
      rw [if_pos (show (6 : Int32) ≤ nI 6 from by decide)]
      rfl
    · rw [if_neg (show ¬ (6 : Int32) ≤ nI i from fun q => by have := (nI_leI (a := 6) (by omega) (by omega)).mp q; omega), show 6 - i = (6 - (i + 1)) + 1 by omega, z_n, ← ih (i + 1) _ (by omega) (by omega)]
      rw [dI_in (by omega) (by omega), dk_gd_t, nI_clamp (by omega), q_dgR (by omega) hR, some_bind', nI_1]
theorem l_c115 {S : dk_S} (hT : i_T S) : ∀ (m i : Nat) (h : Int64), i ≤ 4 → 4 - i < m → fX8_digest_L115  m h (nI i) S = some ((z_n (dT S) (4 - i) i h), S) := by
  intro m
  induction m with
  | zero => intro i h h1 h2; omega
  | succ m ih =>
    intro i h h1 h2
    rw [fX8_digest_L115]
    by_cases hi : i = 4
    · subst hi
      rw [if_pos (show (4 : Int32) ≤ nI 4 from by decide)]
      rfl
    · rw [if_neg (show ¬ (4 : Int32) ≤ nI i from fun q => by have := (nI_leI (a := 4) (by omega) (by omega)).mp q; omega), show 4 - i = (4 - (i + 1)) + 1 by omega, z_n, ← ih (i + 1) _ (by omega) (by omega)]
      rw [dI_in (by omega) (by omega), dk_gd_t, nI_clamp (by omega), q_dgT (by omega) hT, some_bind', nI_1]
theorem q_digest {S : dk_S} (hX : i_X S) : fX8_digest S = some (dD S, S) := by
  have hF := dk_FU_ge
  obtain ⟨hR, hT, hW, hB, hK⟩ := id hX
  unfold fX8_digest dD
  rw [show (0 : Int32) = nI 0 from rfl, l_c6 hX _ dk_FU 0 17 (by omega) (by omega)]
  dsimp only
  rw [l_c33 hW _ dk_FU 0 _ (by omega) (by omega)]
  dsimp only
  rw [l_c57 hB _ dk_FU 0 _ (by omega) (by omega)]
  dsimp only
  rw [q_dg0 hK.1, some_bind', l_c90 hR _ dk_FU 0 _ (by omega) (by omega)]
  dsimp only
  rw [l_c115 hT dk_FU 0 _ (by omega) (by omega)]
theorem l_m9 {S : dk_S} (kx : dk_S → Option (Int64 × dk_S)) : ∀ (m i : Nat) (h : Int64), i ≤ 7 → 7 - i < m → fX9_digest_L9 kx m (nI i) (d_H S h) = kx (d_H S (z_n (dN S) (7 - i) i h)) := by
  intro m
  induction m with
  | zero => intro i h h1 h2; omega
  | succ m ih =>
    intro i h h1 h2
    rw [fX9_digest_L9]
    by_cases hi : i = 7
    · subst hi
      rw [if_pos (show (7 : Int32) ≤ nI 7 from by decide)]
      rfl
    · rw [if_neg (show ¬ (7 : Int32) ≤ nI i from fun q => by have := (nI_leI (a := 7) (by omega) (by omega)).mp q; omega), show 7 - i = (7 - (i + 1)) + 1 by omega, z_n, ← ih (i + 1) _ (by omega) (by omega)]
      rw [q_counted (k_06_of ⟨nI_ge0 (by omega), (nI_leI (b := 6) (by omega) (by omega)).mpr (by omega)⟩), some_bind', q_mix, some_bind', nI_1]
      rfl
theorem l_m25 {S : dk_S} {k : Nat} (hk : k < 4) (hth : ¬ S.1 89 k = 0) (kx : dk_S → Option dk_S) : ∀ (m i : Nat) (h : Int64), i ≤ 7 → 7 - i < m → fX9_mixBooks_L25 (nI k) kx m (nI i) (d_H S h) = kx (d_H S (z_n (z_v (fun j => S.1 90 (7 * k + j))) (7 - i) i h)) := by
  intro m
  induction m with
  | zero => intro i h h1 h2; omega
  | succ m ih =>
    intro i h h1 h2
    rw [fX9_mixBooks_L25]
    by_cases hi : i = 7
    · subst hi
      rw [if_pos (show (7 : Int32) ≤ nI 7 from by decide)]
      rfl
    · rw [if_neg (show ¬ (7 : Int32) ≤ nI i from fun q => by have := (nI_leI (a := 7) (by omega) (by omega)).mp q; omega), show 7 - i = (7 - (i + 1)) + 1 by omega, z_n, ← ih (i + 1) _ (by omega) (by omega)]
      have e1 : (7 : Int32) * nI k + nI i = nI (7 * k + i) := by rw [show (7 : Int32) = nI 7 from rfl, nI_mul, nI_add]
      rw [dI_in hk (by omega), dk_gd_t, nI_clamp (by omega), d_H_1, if_neg hth, e1, dI_in (by omega) (by omega), dk_gd_t, nI_clamp (by omega), q_mix, some_bind', nI_1]
      rfl
theorem l_m250 {S : dk_S} {k : Nat} (hk : k < 4) (hth : S.1 89 k = 0) (kx : dk_S → Option dk_S) (m : Nat) : fX9_mixBooks_L25 (nI k) kx (m + 1) (nI 0) S = kx S := by
  rw [fX9_mixBooks_L25, if_neg (by decide), dI_in hk (by omega), dk_gd_t, nI_clamp (by omega), if_pos hth]
theorem l_o25 {S : dk_S} (kx : dk_S → Option dk_S) : ∀ (m i : Nat) (h : Int64), i ≤ 4 → 4 - i < m → fX9_mixBooks_L2 kx m (nI i) (d_H S h) = kx (d_H S (z_n (dW S) (4 - i) i h)) := by
  intro m
  induction m with
  | zero => intro i h h1 h2; omega
  | succ m ih =>
    intro i h h1 h2
    rw [fX9_mixBooks_L2]
    by_cases hi : i = 4
    · subst hi
      rw [if_pos (show (4 : Int32) ≤ nI 4 from by decide)]
      rfl
    · rw [if_neg (show ¬ (4 : Int32) ≤ nI i from fun q => by have := (nI_leI (a := 4) (by omega) (by omega)).mp q; omega), show 4 - i = (4 - (i + 1)) + 1 by omega, z_n, ← ih (i + 1) _ (by omega) (by omega)]
      have hF := dk_FU_ge
      rw [dI_in (by omega) (by omega), dk_gd_t, nI_clamp (by omega), dk_lt_eq, d_H_1]
      dsimp only
      rw [nI_1]
      unfold dW
      by_cases g : S.1 89 i = 0
      · obtain ⟨m', hm'⟩ : ∃ m', dk_FU = m' + 1 := ⟨dk_FU - 1, by omega⟩
        rw [if_pos g, if_pos g, q_mix, some_bind', hm', ← nI_0, l_m250 (by omega) (by rw [d_H_1]; exact g)]
      · rw [if_neg g, if_neg g, ← nI_0, l_m25 (by omega) g _ dk_FU 0 _ (by omega) (by omega)]
theorem l_m93 {S : dk_S} {k : Nat} (hk : k < 4) (hth : ¬ S.1 91 k = 0) (kx : dk_S → Option dk_S) : ∀ (m i : Nat) (h : Int64), i ≤ 101 → 101 - i < m → fX9_mixBooks_L93 (nI k) kx m (nI i) (d_H S h) = kx (d_H S (z_n (z_v (fun j => S.1 92 (101 * k + j))) (101 - i) i h)) := by
  intro m
  induction m with
  | zero => intro i h h1 h2; omega
  | succ m ih =>
    intro i h h1 h2
    rw [fX9_mixBooks_L93]
    by_cases hi : i = 101
    · subst hi
      rw [if_pos (show (101 : Int32) ≤ nI 101 from by decide)]
      rfl
    · rw [if_neg (show ¬ (101 : Int32) ≤ nI i from fun q => by have := (nI_leI (a := 101) (by omega) (by omega)).mp q; omega), show 101 - i = (101 - (i + 1)) + 1 by omega, z_n, ← ih (i + 1) _ (by omega) (by omega)]
      have e1 : (101 : Int32) * nI k + nI i = nI (101 * k + i) := by rw [show (101 : Int32) = nI 101 from rfl, nI_mul, nI_add]
      rw [dI_in hk (by omega), dk_gd_t, nI_clamp (by omega), d_H_1, if_neg hth, e1, dI_in (by omega) (by omega), dk_gd_t, nI_clamp (by omega), q_mix, some_bind', nI_1]
      rfl
theorem l_m930 {S : dk_S} {k : Nat} (hk : k < 4) (hth : S.1 91 k = 0) (kx : dk_S → Option dk_S) (m : Nat) : fX9_mixBooks_L93 (nI k) kx (m + 1) (nI 0) S = kx S := by
  rw [fX9_mixBooks_L93, if_neg (by decide), dI_in hk (by omega), dk_gd_t, nI_clamp (by omega), if_pos hth]
theorem l_o93 {S : dk_S} (kx : dk_S → Option dk_S) : ∀ (m i : Nat) (h : Int64), i ≤ 4 → 4 - i < m → fX9_mixBooks_L70 kx m (nI i) (d_H S h) = kx (d_H S (z_n (dB S) (4 - i) i h)) := by
  intro m
  induction m with
  | zero => intro i h h1 h2; omega
  | succ m ih =>
    intro i h h1 h2
    rw [fX9_mixBooks_L70]
    by_cases hi : i = 4
    · subst hi
      rw [if_pos (show (4 : Int32) ≤ nI 4 from by decide)]
      rfl
    · rw [if_neg (show ¬ (4 : Int32) ≤ nI i from fun q => by have := (nI_leI (a := 4) (by omega) (by omega)).mp q; omega), show 4 - i = (4 - (i + 1)) + 1 by omega, z_n, ← ih (i + 1) _ (by omega) (by omega)]
      have hF := dk_FU_ge
      rw [dI_in (by omega) (by omega), dk_gd_t, nI_clamp (by omega), dk_lt_eq, d_H_1]
      dsimp only
      rw [nI_1]
      unfold dB
      by_cases g : S.1 91 i = 0
      · obtain ⟨m', hm'⟩ : ∃ m', dk_FU = m' + 1 := ⟨dk_FU - 1, by omega⟩
        rw [if_pos g, if_pos g, q_mix, some_bind', hm', ← nI_0, l_m930 (by omega) (by rw [d_H_1]; exact g)]
      · rw [if_neg g, if_neg g, ← nI_0, l_m93 (by omega) g _ dk_FU 0 _ (by omega) (by omega)]
theorem l_m154 {S : dk_S} (hth : ¬ S.1 97 0 = 0) : ∀ (m i : Nat) (h : Int64), i ≤ 7 → 7 - i < m → fX9_mixBooks_L154 m (nI i) (d_H S h) = some (d_H S (z_n (z_v (fun j => w_t (nI j) S)) (7 - i) i h)) := by
  intro m
  induction m with
  | zero => intro i h h1 h2; omega
  | succ m ih =>
    intro i h h1 h2
    rw [fX9_mixBooks_L154]
    by_cases hi : i = 7
    · subst hi
      rw [if_pos (show (7 : Int32) ≤ nI 7 from by decide)]
      rfl
    · rw [if_neg (show ¬ (7 : Int32) ≤ nI i from fun q => by have := (nI_leI (a := 7) (by omega) (by omega)).mp q; omega), show 7 - i = (7 - (i + 1)) + 1 by omega, z_n, ← ih (i + 1) _ (by omega) (by omega), d_H_1, if_neg hth, q_wt, some_bind', q_mix, some_bind', nI_1]
      rfl
theorem q_mixBooks (S : dk_S) (h : Int64) : fX9_mixBooks (d_H S h) = some (d_H S (dC S (z_n (dB S) 4 0 (z_n (dW S) 4 0 h)))) := by
  have hF := dk_FU_ge
  unfold fX9_mixBooks
  rw [show (0 : Int32) = nI 0 from rfl, l_o25 _ dk_FU 0 h (by omega) (by omega), l_o93 _ dk_FU 0 _ (by omega) (by omega), dk_lt_eq, d_H_1]
  unfold dC
  rw [nI_0]
  by_cases g : S.1 97 0 = 0
  · obtain ⟨m', hm'⟩ : ∃ m', dk_FU = m' + 1 := ⟨dk_FU - 1, by omega⟩
    rw [if_pos g, if_pos g, q_mix, some_bind', hm']
    dsimp only
    rw [fX9_mixBooks_L154, if_neg (by decide), d_H_1, if_pos g]
  · have := l_m154 g dk_FU 0 (z_n (dB S) 4 0 (z_n (dW S) 4 0 h)) (by omega) (by omega)
    rw [nI_0] at this
    rw [if_neg g, if_neg g]
    exact this
theorem l_mR {S : dk_S} {r n : Nat} (hr : r < 6) (hn : S.1 84 r = nI n) (hn2 : n ≤ 60) (kx : dk_S → Option (Int64 × dk_S)) : ∀ (m i : Nat) (h : Int64), i ≤ n → n - i < m → fX9_digest_L56 (nI r) kx m (nI i) (d_H S h) = kx (d_H S (z_n (z_v (fun j => S.1 85 (60 * r + j))) (n - i) i h)) := by
  intro m
  induction m with
  | zero => intro i h h1 h2; omega
  | succ m ih =>
    intro i h h1 h2
    rw [fX9_digest_L56, dI_in hr (by omega), dk_gd_t, nI_clamp (by omega), d_H_1, hn]
    by_cases hi : i = n
    · subst hi
      rw [if_pos (Int32.le_refl _), Nat.sub_self]
      rfl
    · rw [if_neg (fun q => by have := (nI_leI (by omega) (by omega)).mp q; omega), show n - i = (n - (i + 1)) + 1 by omega, z_n, ← ih (i + 1) _ (by omega) (by omega), q_rowAt hr (by omega), some_bind', q_mix, some_bind', nI_1]
      rfl
theorem l_oR {S : dk_S} (hR : i_R S) (kx : dk_S → Option (Int64 × dk_S)) : ∀ (m i : Nat) (h : Int64), i ≤ 6 → 6 - i < m → fX9_digest_L37 kx m (nI i) (d_H S h) = kx (d_H S (z_n (dR S) (6 - i) i h)) := by
  intro m
  induction m with
  | zero => intro i h h1 h2; omega
  | succ m ih =>
    intro i h h1 h2
    rw [fX9_digest_L37]
    by_cases hi : i = 6
    · subst hi
      rw [if_pos (show (6 : Int32) ≤ nI 6 from by decide)]
      rfl
    · have hF := dk_FU_ge
      obtain ⟨-, b2, -⟩ := hR i (by omega)
      rw [if_neg (show ¬ (6 : Int32) ≤ nI i from fun q => by have := (nI_leI (a := 6) (by omega) (by omega)).mp q; omega), show 6 - i = (6 - (i + 1)) + 1 by omega, z_n, ← ih (i + 1) _ (by omega) (by omega), dI_in (by omega) (by omega), dk_gd_t, nI_clamp (by omega), d_H_1, q_mix, some_bind', nI_1]
      unfold dR
      rcases b2 with b2 | ⟨n, hn, b2⟩
      · obtain ⟨m', hm'⟩ : ∃ m', dk_FU = m' + 1 := ⟨dk_FU - 1, by omega⟩
        rw [hm', fX9_digest_L56, dI_in (by omega) (by omega), dk_gd_t, nI_clamp (by omega), d_H_1, b2, if_pos (by decide)]
        rfl
      · rw [← nI_0, l_mR (by omega) b2 hn _ dk_FU 0 _ (by omega) (by omega), b2, nI_clamp (by omega)]
        rfl
theorem q_bA {t i n : Nat} {S : dk_S} (ht : t < 4) (hn : S.1 87 t = nI n) (hn2 : n ≤ 80) (hi : i < n) : fX9_byteAt (nI t) (nI i) S = some (S.1 88 (80 * t + i), S) := by
  unfold fX9_byteAt
  rw [dI_in ht (by omega), dk_gd_t, nI_clamp (by omega), hn, if_neg (fun q => by have := (nI_leI (by omega) (by omega)).mp q; omega), show (80 : Int32) = nI 80 from rfl, nI_mul, nI_add, dI_in (by omega) (by omega), dk_gd_t, nI_clamp (by omega)]
theorem l_mT {S : dk_S} {r n : Nat} (hr : r < 4) (hn : S.1 87 r = nI n) (hn2 : n ≤ 80) (kx : dk_S → Option (Int64 × dk_S)) : ∀ (m i : Nat) (h : Int64), i ≤ n → n - i < m → fX9_digest_L109 (nI r) kx m (nI i) (d_H S h) = kx (d_H S (z_n (z_v (fun j => S.1 88 (80 * r + j))) (n - i) i h)) := by
  intro m
  induction m with
  | zero => intro i h h1 h2; omega
  | succ m ih =>
    intro i h h1 h2
    rw [fX9_digest_L109, dI_in hr (by omega), dk_gd_t, nI_clamp (by omega), d_H_1, hn]
    by_cases hi : i = n
    · subst hi
      rw [if_pos (Int32.le_refl _), Nat.sub_self]
      rfl
    · rw [if_neg (fun q => by have := (nI_leI (by omega) (by omega)).mp q; omega), show n - i = (n - (i + 1)) + 1 by omega, z_n, ← ih (i + 1) _ (by omega) (by omega), q_bA hr (by rw [d_H_1]; exact hn) hn2 (by omega), some_bind', q_mix, some_bind', nI_1]
      rfl
theorem l_oT {S : dk_S} (hR : i_T S)  : ∀ (m i : Nat) (h : Int64), i ≤ 4 → 4 - i < m → fX9_digest_L91  m (nI i) (d_H S h) = some ((z_n (dT S) (4 - i) i h), d_H S (z_n (dT S) (4 - i) i h)) := by
  intro m
  induction m with
  | zero => intro i h h1 h2; omega
  | succ m ih =>
    intro i h h1 h2
    rw [fX9_digest_L91]
    by_cases hi : i = 4
    · subst hi
      rw [if_pos (show (4 : Int32) ≤ nI 4 from by decide)]
      have e1 : (d_H S h).2 82 40 = h := by unfold d_H; rw [dk_sl_eq, dk_sq_2, if_pos rfl]; simp [vp_updL]
      rw [e1]
      rfl
    · have hF := dk_FU_ge
      obtain ⟨-, b2, -⟩ := hR i (by omega)
      rw [if_neg (show ¬ (4 : Int32) ≤ nI i from fun q => by have := (nI_leI (a := 4) (by omega) (by omega)).mp q; omega), show 4 - i = (4 - (i + 1)) + 1 by omega, z_n, ← ih (i + 1) _ (by omega) (by omega), dI_in (by omega) (by omega), dk_gd_t, nI_clamp (by omega), d_H_1, q_mix, some_bind', nI_1]
      unfold dT
      rcases b2 with b2 | ⟨n, hn, b2⟩
      · obtain ⟨m', hm'⟩ : ∃ m', dk_FU = m' + 1 := ⟨dk_FU - 1, by omega⟩
        rw [hm', fX9_digest_L109, dI_in (by omega) (by omega), dk_gd_t, nI_clamp (by omega), d_H_1, b2, if_pos (by decide)]
        rfl
      · rw [← nI_0, l_mT (by omega) b2 hn _ dk_FU 0 _ (by omega) (by omega), b2, nI_clamp (by omega)]
        rfl
theorem q_mdigest {S : dk_S} (hX : i_X S) : fX9_digest S = some (dD S, d_H S (dD S)) := by
  have hF := dk_FU_ge
  obtain ⟨hR, hT, hW, hB, hK⟩ := id hX
  unfold fX9_digest
  rw [dk_lt_eq, show (0 : Int32) = nI 0 from rfl, show dk_sl S 82 40 17 = d_H S 17 from rfl, l_m9 _ dk_FU 0 17 (by omega) (by omega), q_mixBooks, some_bind', l_oR hR _ dk_FU 0 _ (by omega) (by omega), l_oT hT dk_FU 0 _ (by omega) (by omega)]
  rfl
theorem pr_digest  {n : Nat} {S : dk_S} (hn : n < 512) (hI : dk_I n S) : ∃ (r : Int64) (S1 S2 : dk_S), fX8_digest S = some (r, S1) ∧ fX9_digest S1 = some (r, S2) ∧ dk_I (n + 1) S2 := by
  refine ⟨_, _, _, q_digest hI.2.1, q_mdigest hI.2.1, ?_⟩
  generalize dD S = h
  obtain ⟨⟨a1, a2, a3, a4, a5⟩, hX, hS⟩ := hI
  have e82 : ∀ j, ¬ j = 40 → (d_H S h).2 82 j = S.2 82 j := fun j hj => by unfold d_H; rw [dk_sl_eq, dk_sq_2, if_pos rfl]; unfold vp_updL; rw [if_neg hj]
  have eo : ∀ q, ¬ q = 82 → (d_H S h).2 q = S.2 q := fun q hq => by unfold d_H; rw [dk_sl_eq, dk_sq_2, if_neg hq]
  exact ⟨⟨a1, a2, a3, by rw [eo 0 (by omega), e82 3 (by omega)]; exact a4, by rw [eo 0 (by omega), e82 4 (by omega)]; exact a5⟩, i_X_congr (fun _ _ => rfl) hX, i_S_up (i_S_c (eo 16 (by omega)) (eo 23 (by omega)) hS) (by omega)⟩
