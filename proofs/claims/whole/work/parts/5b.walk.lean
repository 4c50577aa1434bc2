/-! the walk is laid out in the model, and kept again -/
theorem m_row_self (c : Nat → Int32) : m_row c (c 25) (c 26) (c 27) (c 28) (c 29) = c := by
  funext j
  unfold m_row
  by_cases h5 : j = 25
  · rw [if_pos h5, h5]
  by_cases h6 : j = 26
  · rw [if_neg h5, if_pos h6, h6]
  by_cases h7 : j = 27
  · rw [if_neg h5, if_neg h6, if_pos h7, h7]
  by_cases h8 : j = 28
  · rw [if_neg h5, if_neg h6, if_neg h7, if_pos h8, h8]
  by_cases h9 : j = 29
  · rw [if_neg h5, if_neg h6, if_neg h7, if_neg h8, if_pos h9, h9]
  rw [if_neg h5, if_neg h6, if_neg h7, if_neg h8, if_neg h9]
theorem e_layWalk (kx : dk_S → Option dk_S) : ∀ (m i : Nat) (S : dk_S), i ≤ 6 → 6 - i < m → fX9_layWalk_L2 kx m (nI i) S = kx (dk_sr S 95 (fun j => if i ≤ j ∧ j < 6 then S.1 98 j else S.1 95 j)) := by
  intro m
  induction m with
  | zero => intro i S h1 h2; omega
  | succ m ih =>
    intro i S h1 h2
    rw [fX9_layWalk_L2]
    by_cases hi : i = 6
    · subst hi
      rw [if_pos (show (6 : Int32) ≤ nI 6 from by decide)]
      congr 1
      conv => lhs; rw [← dk_sr_id S 95]
      congr 1
      funext j
      rw [if_neg (by omega)]
    · rw [if_neg (show ¬ (6 : Int32) ≤ nI i from fun g => by have := (nI_leI (a := 6) (by omega) (by omega)).mp g; omega), dI_in (by omega) (by omega), dk_gd_t, dI_in (by omega) (by omega), dk_gd_t, dk_lt_eq, nI_clamp (by omega), nI_1, ih _ _ (by omega) (by omega), dk_si_eq, dk_sr_sr, dk_sr_same, dk_sr_ne _ _ (by omega : ¬ 98 = 95)]
      congr 2
      funext j
      simp only [upd_at]
      by_cases hj : j = i
      · subst hj
        rw [if_neg (show ¬ (j + 1 ≤ j ∧ j < 6) by omega), if_pos rfl, if_pos (show j ≤ j ∧ j < 6 by omega)]
      · by_cases hc : i + 1 ≤ j ∧ j < 6
        · rw [if_pos hc, if_pos (show i ≤ j ∧ j < 6 by omega)]
        · rw [if_neg hc, if_neg hj, if_neg (show ¬ (i ≤ j ∧ j < 6) by omega)]
theorem q_layWalk (S : dk_S) : ∃ T, fX9_layWalk S = some T ∧ T.2 = S.2 ∧ (∀ q, ¬ q = 82 → ¬ q = 95 → ¬ q = 96 → T.1 q = S.1 q) ∧ (∀ j, j < 20 → T.1 82 j = S.1 82 j) ∧ m_T (S.1 98) (S.1 98 13) (S.1 98 6) 0 0 T ∧ T.1 82 = m_row (T.1 82) (S.1 98 7) (S.1 98 8) (S.1 98 10) (S.1 98 11) (S.1 98 12) := by
  unfold fX9_layWalk
  rw [show (0 : Int32) = nI 0 from rfl, e_layWalk _ dk_FU 0 S (by omega) (by have := dk_FU_ge; omega)]
  simp (disch := omega) only [dk_lt_eq, dk_si_eq, dk_sr_ne, dk_sr_same, upd_ne, upd_same]
  refine ⟨_, rfl, rfl, fun q h1 h2 h3 => ?_, fun j hj => ?_, ⟨fun j hj => ?_, ?_, ?_, ?_, ?_, ?_⟩, ?_⟩
  · simp (disch := assumption) only [dk_sr_ne]
  · simp (disch := omega) only [dk_sr_ne, dk_sr_same, upd_ne]
  · simp (disch := omega) only [dk_sr_ne, dk_sr_same]
    rw [if_pos (by omega)]
  · simp (disch := omega) only [dk_sr_ne, dk_sr_same, upd_ne, upd_same]
  · simp (disch := omega) only [dk_sr_ne, dk_sr_same, upd_ne, upd_same]
  · simp (disch := omega) only [dk_sr_ne, dk_sr_same, upd_ne, upd_same]
  · simp (disch := omega) only [dk_sr_ne, dk_sr_same, upd_ne, upd_same]
  · simp (disch := omega) only [dk_sr_ne, dk_sr_same, upd_ne, upd_same]
  · refine (m_row_self _).symm.trans ?_
    simp (disch := omega) only [dk_sr_ne, dk_sr_same, upd_ne, upd_same]
