/-! a walk is copied, in the model -/
theorem e_copyWalk {a b : Nat} (ha : a < 4) (hb : b < 4) (hab : ¬ a = b) : ∀ (m i : Nat) (S : dk_S), i ≤ 114 → 114 - i < m → fX9_copyWalk_L2 (nI a) (nI b) m (nI i) S = some (dk_sr S 98 (fun j => if 114 * b + i ≤ j ∧ j < 114 * b + 114 then S.1 98 (114 * a + (j - 114 * b)) else S.1 98 j)) := by
  intro m
  induction m with
  | zero => intro i S h1 h2; omega
  | succ m ih =>
    intro i S h1 h2
    rw [fX9_copyWalk_L2]
    by_cases hi : i = 114
    · subst hi
      rw [if_pos (show (114 : Int32) ≤ nI 114 from by decide)]
      congr 1
      conv => lhs; rw [← dk_sr_id S 98]
      congr 1
      funext j
      rw [if_neg (by omega)]
    · rw [if_neg (show ¬ (114 : Int32) ≤ nI i from fun g => by have := (nI_leI (a := 114) (by omega) (by omega)).mp g; omega)]
      have e1 : (114 : Int32) * nI a + nI i = nI (114 * a + i) := by rw [show (114 : Int32) = nI 114 from rfl, nI_mul, nI_add]
      have e2 : (114 : Int32) * nI b + nI i = nI (114 * b + i) := by rw [show (114 : Int32) = nI 114 from rfl, nI_mul, nI_add]
      rw [e1, e2, dI_in (by omega) (by omega), dk_gd_t, dI_in (by omega) (by omega), dk_gd_t, dk_lt_eq, nI_clamp (by omega), nI_clamp (by omega), nI_1, ih _ _ (by omega) (by omega), dk_si_eq, dk_sr_sr, dk_sr_same]
      congr 2
      funext j
      simp only [upd_at]
      by_cases hj : j = 114 * b + i
      · subst hj
        rw [if_neg (show ¬ (114 * b + (i + 1) ≤ 114 * b + i ∧ 114 * b + i < 114 * b + 114) by omega), if_pos rfl, if_pos (show 114 * b + i ≤ 114 * b + i ∧ 114 * b + i < 114 * b + 114 by omega), show 114 * b + i - 114 * b = i by omega]
      · by_cases hc : 114 * b + (i + 1) ≤ j ∧ j < 114 * b + 114
        · rw [if_pos hc, if_neg (show ¬ 114 * a + (j - 114 * b) = 114 * b + i by omega), if_pos (show 114 * b + i ≤ j ∧ j < 114 * b + 114 by omega)]
        · rw [if_neg hc, if_neg hj, if_neg (show ¬ (114 * b + i ≤ j ∧ j < 114 * b + 114) by omega)]
theorem q_copyWalk {a b : Nat} (ha : a < 4) (hb : b < 4) (hab : ¬ a = b) (S : dk_S) : fX9_copyWalk (nI a) (nI b) S = some (dk_sr S 98 (fun j => if 114 * b ≤ j ∧ j < 114 * b + 114 then S.1 98 (114 * a + (j - 114 * b)) else S.1 98 j)) :=
  e_copyWalk ha hb hab dk_FU 0 S (by omega) (by have := dk_FU_ge; omega)
theorem cp100 : dk_cpok 0 0 100 100 100 = true := by decide
theorem q_take3 (k0 k1 : Nat) (S : dk_S) (h : ¬ k1 = k0 + 1) : fX3_take k0 k1 S = some (dk_sr (dk_sr S (k0 + 1) (fun j => if j < 100 then S.1 (k1 + 1) j else S.1 (k0 + 1) j)) k0 (upd (S.1 k0) 1 (S.1 k1 1))) := by
  unfold fX3_take
  rw [cp100, dk_gd_t, dk_lt_eq, dk_lt_eq, dk_si_eq, dk_sr_ne _ _ (by omega : ¬ k0 = k0 + 1), dk_sr_ne _ _ h]
  congr 3
  funext j
  unfold va_cpy
  show (if 0 ≤ j ∧ j < 0 + 100 then _ else _) = _
  by_cases hj : j < 100
  · rw [if_pos (by omega), if_pos hj, show Int32.toNatClampNeg 0 + (j - Int32.toNatClampNeg 0) = j from (by show 0 + (j - 0) = j; omega)]
  · rw [if_neg (by omega), if_neg hj]
