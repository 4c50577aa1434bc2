/-! the greatest number that divides both -/
theorem dv_step {a b k : Nat} (hb : 0 < b) (hba : b ≤ a) (h : a * b < 2 ^ (k + 1)) : b * (a % b) < 2 ^ k := by
  have h1 : a % b < b := Nat.mod_lt _ hb
  have h2 : b * (a / b) + a % b = a := Nat.div_add_mod a b
  have h3 : 1 ≤ a / b := (Nat.le_div_iff_mul_le hb).mpr (by omega)
  have h4 : b ≤ b * (a / b) := Nat.le_mul_of_pos_right b h3
  have h5 : 2 * (a % b) ≤ a := by omega
  have h6 : b * (2 * (a % b)) ≤ b * a := Nat.mul_le_mul_left b h5
  have h7 : b * (2 * (a % b)) = 2 * (b * (a % b)) := by rw [Nat.mul_left_comm]
  have h8 : b * a = a * b := Nat.mul_comm b a
  have h9 : 2 ^ (k + 1) = 2 * 2 ^ k := by rw [Nat.pow_succ, Nat.mul_comm]
  omega
theorem gcd_step (a b : Nat) : Nat.gcd b (a % b) = Nat.gcd a b := by
  rw [Nat.gcd_comm a b, Nat.gcd_rec b a, Nat.gcd_comm]
theorem e_dv {S : dk_S} : ∀ (k m c a b : Nat), b ≤ a → a * b < 2 ^ k → c + k + 1 ≤ 64 → k + 1 < m → a < 2 ^ 15 → fX8_divisor_L13 m (nI a) (nI b) (nI c) S = some (nI (Nat.gcd a b), S) := by
  intro k
  induction k with
  | zero =>
    intro m c a b h1 h2 h3 h4 h5
    obtain ⟨m, rfl⟩ : ∃ m', m = m' + 1 := ⟨m - 1, by omega⟩
    have hb : b = 0 := by
      rcases Nat.mul_eq_zero.mp (show a * b = 0 by omega) with h | h <;> omega
    subst hb
    rw [fX8_divisor_L13, if_neg (show ¬ (64 : Int32) ≤ nI c from fun q => by have := (nI_leI (a := 64) (by omega) (by omega)).mp q; omega), if_pos (show nI 0 = 0 from rfl), Nat.gcd_zero_right]
  | succ k ih =>
    intro m c a b h1 h2 h3 h4 h5
    obtain ⟨m, rfl⟩ : ∃ m', m = m' + 1 := ⟨m - 1, by omega⟩
    rw [fX8_divisor_L13, if_neg (show ¬ (64 : Int32) ≤ nI c from fun q => by have := (nI_leI (a := 64) (by omega) (by omega)).mp q; omega)]
    by_cases hb : b = 0
    · subst hb
      rw [if_pos (show nI 0 = 0 from rfl), Nat.gcd_zero_right]
    · have hb0 : ¬ nI b = 0 := nI_ne0 (by omega) (by omega)
      rw [if_neg hb0, decide_eq_true hb0, dk_gd_t, dk_lt_eq, pk_rem (by omega) (by omega) (by omega), nI_1, ih m (c + 1) b (a % b) (Nat.le_of_lt (Nat.mod_lt _ (by omega))) (dv_step (by omega) h1 h2) (by omega) (by omega) (by omega), gcd_step]
theorem q_dv {S : dk_S} {a b : Nat} (ha : a < 2 ^ 15) (hb : b < 2 ^ 15) : fX8_divisor_L13 dk_FU (nI a) (nI b) 0 S = some (nI (Nat.gcd a b), S) := by
  have hF := dk_FU_ge
  have hp : ∀ x y : Nat, x < 2 ^ 15 → y < 2 ^ 15 → x * y < 2 ^ 30 := fun x y hx hy => by
    have : x * y ≤ 32767 * 32767 := Nat.mul_le_mul (by omega) (by omega)
    omega
  by_cases h : b ≤ a
  · exact e_dv 30 dk_FU 0 a b h (hp a b ha hb) (by omega) (by omega) ha
  · obtain ⟨m, hm⟩ : ∃ m', dk_FU = m' + 1 := ⟨dk_FU - 1, by omega⟩
    have hb0 : ¬ nI b = 0 := nI_ne0 (by omega) (by omega)
    rw [hm, fX8_divisor_L13, if_neg (by decide), if_neg hb0, decide_eq_true hb0, dk_gd_t, dk_lt_eq, pk_rem (by omega) (by omega) (by omega), Nat.mod_eq_of_lt (by omega)]
    have := e_dv (S := S) 30 m 1 b a (by omega) (hp b a hb ha) (by omega) (by omega) hb
    rw [Nat.gcd_comm a b]
    exact this
theorem q_divisor {S : dk_S} {a b : Nat} (ha : a < 2 ^ 15) (hb : b < 2 ^ 15) : fX8_divisor (nI a) (nI b) S = some (nI (Nat.gcd a b), S) := by
  unfold fX8_divisor fJ9_abs_0f7a4
  rw [if_pos (nI_ge0 (by omega)), some_bind', if_pos (nI_ge0 (by omega)), some_bind']
  exact q_dv ha hb
theorem mx1 {g : Nat} (h : 1 ≤ g) (h2 : g < 2 ^ 31) : p_mx 1 (nI g) = nI g := by
  unfold p_mx
  by_cases h1 : (1 : Int32) < nI g
  · rw [if_pos h1]
  · rw [if_neg h1]
    have : g = 1 := by
      by_cases hg : 1 < g
      · exact absurd ((nI_ltI (a := 1) (by omega) h2).mpr hg) h1
      · omega
    rw [this]; rfl
theorem gcd_pos' {a b : Nat} (hb : 1 ≤ b) : 1 ≤ Nat.gcd a b := Nat.gcd_pos_of_pos_right a (by omega)
theorem gcd_le' {a b : Nat} (hb : 1 ≤ b) : Nat.gcd a b ≤ b := Nat.gcd_le_right a (by omega)
theorem q_frac {S : dk_S} {a b : Nat} (ha : a < 2 ^ 15) (hb : b < 2 ^ 15) (h1 : 1 ≤ b) : fX8_tellFraction (nI a) (nI b) S = some (dk_sl (dk_sl S 0 13 (lN (a / Nat.gcd a b))) 0 14 (lN (b / Nat.gcd a b))) := by
  have g1 : 1 ≤ Nat.gcd a b := gcd_pos' h1
  have g2 : Nat.gcd a b ≤ b := gcd_le' h1
  unfold fX8_tellFraction
  rw [q_divisor ha hb, some_bind', q_max, some_bind']
  dsimp only
  rw [mx1 g1 (by omega)]
  have g0 : ¬ nI (Nat.gcd a b) = 0 := nI_ne0 (by omega) (by omega)
  have d1 : a / Nat.gcd a b ≤ a := Nat.div_le_self _ _
  have d2 : b / Nat.gcd a b ≤ b := Nat.div_le_self _ _
  have d3 : 1 ≤ b / Nat.gcd a b := (Nat.le_div_iff_mul_le (by omega)).mpr (by omega)
  rw [decide_eq_true g0, dk_gd_t, dk_lt_eq, dk_gd_t, pk_div (by omega) (by omega) (by omega), pk_div (by omega) (by omega) (by omega), q_max, some_bind', dk_lt_eq]
  dsimp only
  rw [mx1 d3 (by omega), nI_l (by omega), nI_l (by omega)]
theorem cmp0 {b : Nat} (hb : b < 2 ^ 31) : (lg_cmp (lN b) 0 = 0) ↔ b = 0 := by
  unfold lg_cmp
  have e0 : (0 : Int64) = lN 0 := rfl
  by_cases h : b = 0
  · subst h; exact ⟨fun _ => rfl, fun _ => by decide⟩
  · refine ⟨fun q => ?_, fun q => absurd q h⟩
    exfalso
    rw [e0] at q
    by_cases h1 : lN b > lN 0
    · rw [if_pos h1] at q; exact absurd q (by decide)
    · exact h1 ((lN_lt (by omega) hb).mpr (by omega))
theorem e_mdv {x1 x3 : Int64} {x5 : Int32} {S : dk_S} (kx : (Int64 × dk_S) → Option (Int32 × dk_S)) : ∀ (k m a b : Nat), b ≤ a → a * b < 2 ^ k → k + 1 < m → a < 2 ^ 15 → fX9_fraction_L6 x1 x3 x5 kx m (lN a) (lN b) S = kx (lN (Nat.gcd a b), S) := by
  intro k
  induction k with
  | zero =>
    intro m a b h1 h2 h4 h5
    obtain ⟨m, rfl⟩ : ∃ m', m = m' + 1 := ⟨m - 1, by omega⟩
    have hb : b = 0 := by
      rcases Nat.mul_eq_zero.mp (show a * b = 0 by omega) with h | h <;> omega
    subst hb
    rw [fX9_fraction_L6, if_pos ((cmp0 (by omega)).mpr rfl), Nat.gcd_zero_right]
  | succ k ih =>
    intro m a b h1 h2 h4 h5
    obtain ⟨m, rfl⟩ : ∃ m', m = m' + 1 := ⟨m - 1, by omega⟩
    rw [fX9_fraction_L6]
    by_cases hb : b = 0
    · subst hb
      rw [if_pos ((cmp0 (by omega)).mpr rfl), Nat.gcd_zero_right]
    · have hb0 : ¬ lN b = 0 := fun q => hb ((lN_eq (b := 0) (by omega) (by omega)).mp q)
      rw [if_neg (fun q => hb ((cmp0 (by omega)).mp q)), decide_eq_true hb0, dk_gd_t, dk_lt_eq, pk_lRem (by omega) (by omega) (by omega), ih m b (a % b) (Nat.le_of_lt (Nat.mod_lt _ (by omega))) (dv_step (by omega) h1 h2) (by omega) (by omega), gcd_step]
theorem q_mfrac {S : dk_S} {a b : Nat} (ha : a < 2 ^ 15) (hb : b < 2 ^ 15) (h1 : 1 ≤ b) (x : Int32) : fX9_fraction (lN a) (lN b) x S = some (x, dk_sl (dk_sl S 82 3 (lN (a / Nat.gcd a b))) 82 4 (lN (b / Nat.gcd a b))) := by
  have g1 : 1 ≤ Nat.gcd a b := gcd_pos' h1
  have g2 : Nat.gcd a b ≤ b := gcd_le' h1
  have hF := dk_FU_ge
  have hp : ∀ x y : Nat, x < 2 ^ 15 → y < 2 ^ 15 → x * y < 2 ^ 30 := fun x y hx hy => by
    have : x * y ≤ 32767 * 32767 := Nat.mul_le_mul (by omega) (by omega)
    omega
  have hk : ∀ kx : (Int64 × dk_S) → Option (Int32 × dk_S), fX9_fraction_L6 (lN a) (lN b) x kx dk_FU (lN a) (lN b) S = kx (lN (Nat.gcd a b), S) := fun kx => by
    by_cases h : b ≤ a
    · exact e_mdv kx 30 dk_FU a b h (hp a b ha hb) (by omega) ha
    · obtain ⟨m, hm⟩ : ∃ m', dk_FU = m' + 1 := ⟨dk_FU - 1, by omega⟩
      have hb0 : ¬ lN b = 0 := fun q => by have := (lN_eq (b := 0) (by omega) (by omega)).mp q; omega
      rw [hm, fX9_fraction_L6, if_neg (fun q => by have := (cmp0 (by omega)).mp q; omega), decide_eq_true hb0, dk_gd_t, dk_lt_eq, pk_lRem (by omega) (by omega) (by omega), Nat.mod_eq_of_lt (by omega), e_mdv kx 30 m b a (by omega) (hp b a hb ha) (by omega) hb, Nat.gcd_comm]
  unfold fX9_fraction
  rw [hk]
  have g0 : ¬ lN (Nat.gcd a b) = 0 := fun q => by have := (lN_eq (b := 0) (by omega) (by omega)).mp q; omega
  dsimp only
  rw [decide_eq_true g0, dk_gd_t, dk_lt_eq, dk_gd_t, dk_lt_eq, pk_lDiv (by omega) (by omega) (by omega), pk_lDiv (by omega) (by omega) (by omega)]
theorem dk_sl_1 (S : dk_S) (k j : Nat) (v : Int64) : (dk_sl S k j v).1 = S.1 := rfl
theorem dk_sl_ne (S : dk_S) (k j : Nat) (v : Int64) {q : Nat} (h : ¬ q = k) : (dk_sl S k j v).2 q = S.2 q := by rw [dk_sl_eq, dk_sq_2, if_neg h]
theorem dk_sl_same (S : dk_S) (k j i : Nat) (v : Int64) : (dk_sl S k j v).2 k i = if i = j then v else S.2 k i := by rw [dk_sl_eq, dk_sq_2, if_pos rfl]; rfl
theorem an_frac {n : Nat} {S Sx Sy : dk_S} {v w : Int64} {B : Int} (hI : dk_I n S) (hc : c_sm S Sx) (hB : c_ok B Sx) (hB2 : B ≤ 10000000 * ((n + 1 : Nat) : Int)) (hm : m_sm (dk_sl (dk_sl Sx 0 13 v) 0 14 w) Sy) : dk_I (n + 1) (dk_sl (dk_sl Sy 82 3 v) 82 4 w) := by
  have h0 : ∀ q, ¬ q = 82 → (q < 95 ∨ q = 97 ∨ q = 98) → ¬ (16 ≤ q ∧ q ≤ 28) → (dk_sl (dk_sl Sy 82 3 v) 82 4 w).1 q = S.1 q := fun q q2 q3 q4 => by
    rw [dk_sl_1, dk_sl_1, hm.1 q q3 q2, dk_sl_1, dk_sl_1, hc.1 q q4]
  have h82 : ∀ j, j < 20 → (dk_sl (dk_sl Sy 82 3 v) 82 4 w).1 82 j = S.1 82 j := fun j hj => by
    rw [dk_sl_1, dk_sl_1, hm.2.2 j hj, dk_sl_1, dk_sl_1, hc.1 82 (by omega)]
  have e1 : ∀ q, ¬ q = 82 → ¬ q = 0 → (dk_sl (dk_sl Sy 82 3 v) 82 4 w).2 q = Sx.2 q := fun q q1 q2 => by
    rw [dk_sl_ne _ _ _ _ q1, dk_sl_ne _ _ _ _ q1, hm.2.1, dk_sl_ne _ _ _ _ q2, dk_sl_ne _ _ _ _ q2]
  refine an_I hI (fun q hq => h0 q (by unfold i_core at hq; omega) (by unfold i_core at hq; omega) (by unfold i_core at hq; omega)) (h0 30 (by omega) (by omega) (by omega)) (h0 83 (by omega) (by omega) (by omega)) ?_ ?_ ?_ ?_ ?_ ((hB.c (e1 16 (by omega) (by omega)) (e1 23 (by omega) (by omega))).up hB2)
  · rw [h0 0 (by omega) (by omega) (by omega)]
  · rw [h82 0 (by omega)]
  · rw [h0 0 (by omega) (by omega) (by omega), h82 2 (by omega)]; exact hI.1.2.2.1
  · rw [dk_sl_ne _ _ _ _ (by omega), dk_sl_ne _ _ _ _ (by omega), hm.2.1, dk_sl_same, if_neg (by omega), dk_sl_same, if_pos rfl, dk_sl_same, if_neg (by omega), dk_sl_same, if_pos rfl]
  · rw [dk_sl_ne _ _ _ _ (by omega), dk_sl_ne _ _ _ _ (by omega), hm.2.1, dk_sl_same, if_pos rfl, dk_sl_same, if_pos rfl]
