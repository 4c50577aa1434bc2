/-! about, rub -/
theorem pr_about (a1 : Int32) (a2 : Int32) {n : Nat} {S : dk_S} (hn : n < 512) (hI : dk_I n S) : ∃ (r : Int32) (S1 S2 : dk_S), fX8_about a1 a2 S = some (r, S1) ∧ fX9_about a1 a2 S1 = some (r, S2) ∧ dk_I (n + 1) S2 := by
  unfold fX8_about fX9_about
  simp only [q_noWalker, q_isOutside, q_isPlace, q_in, some_bind']
  by_cases h : 0 ≤ a1 ∧ a1 ≤ 3
  · simp only [if_pos h, if_true, i_10, if_false]
    by_cases h2 : 0 ≤ a2 ∧ a2 ≤ 6
    · simp only [if_pos h2, if_true, i_10, if_false]
      obtain ⟨k, hk, rfl⟩ := b_4 h
      obtain ⟨i, hi, rfl⟩ := dI_of (n := 6) (by omega) h2.1 h2.2
      obtain ⟨w1, w2, w3, w4, -⟩ := hI.2.1.2.2.1 k hk
      rw [dI_in (by omega) (by omega), dk_gd_t, nI_clamp (by omega), w1]
      rcases w2 with w2 | w2
      · rw [w2, if_pos rfl, q_found1, some_bind']
        refine ⟨_, _, _, rfl, ?_, dk_I_fn (f := 1) (by omega) hI⟩
        rw [dk_gd_t, q_fnd_ne _ _ (by omega) (by omega), w2, if_pos rfl, q_notes1, some_bind']
      · have hv : fX1_value (51 + 2 * k) (nI i) S = some (S.1 90 (7 * k + i), S) := by
          unfold fX1_value
          rw [q_isOutside, some_bind']
          by_cases h6 : i = 6
          · subst h6
            rw [if_neg (show ¬ (0 ≤ nI 6 ∧ nI 6 ≤ (5 : Int32)) by decide), if_neg (show ¬ (1 : Int32) = 0 by decide), w4]
          · rw [if_pos (show 0 ≤ nI i ∧ nI i ≤ (5 : Int32) from ⟨nI_ge0 (by omega), (nI_leI (b := 5) (by omega) (by omega)).mpr (by omega)⟩), if_pos rfl, dI_in (by omega) (by omega), dk_gd_t, nI_clamp (by omega)]
            show some (S.1 (51 + 2 * k + 1) i, S) = _
            rw [show 51 + 2 * k + 1 = 52 + 2 * k by omega, w3 i (by omega)]
        rw [w2, if_neg (show ¬ (1 : Int32) = 0 by decide), dk_gd_t, hv, some_bind', q_tell, some_bind']
        refine ⟨_, _, _, rfl, ?_, dk_I_tell (v := S.1 90 (7 * k + i)) hI⟩
        have e89 : (dk_sr S 0 (upd (S.1 0) 12 (S.1 90 (7 * k + i)))).1 89 k = 1 := by rw [dk_sr_ne _ _ (by omega)]; exact w2
        have e7 : (7 : Int32) * nI k + nI i = nI (7 * k + i) := by rw [show (7 : Int32) = nI 7 from rfl, nI_mul, nI_add]
        rw [dk_gd_t, e89, if_neg (show ¬ (1 : Int32) = 0 by decide), e7, dI_in (by omega) (by omega), dk_gd_t, nI_clamp (by omega), q_tells, some_bind', dk_sr_ne _ _ (by omega : ¬ 90 = 0)]
    · simp only [if_neg h2, i_10, if_false, if_true]
      exact ⟨_, _, _, rfl, rfl, dk_I_up hI⟩
  · simp only [if_neg h, i_10, if_false, if_true]
    exact ⟨_, _, _, rfl, rfl, dk_I_up hI⟩
theorem pr_rub (a1 : Int32) (a2 : Int32) {n : Nat} {S : dk_S} (hn : n < 512) (hI : dk_I n S) : ∃ (r : Int32) (S1 S2 : dk_S), fX8_rub a1 a2 S = some (r, S1) ∧ fX9_rub a1 a2 S1 = some (r, S2) ∧ dk_I (n + 1) S2 := by
  unfold fX8_rub fX9_rub
  simp only [q_noBoard, q_isOutside, q_isPlace, q_in, some_bind']
  by_cases h : 0 ≤ a1 ∧ a1 ≤ 3
  · simp only [if_pos h, if_true, i_10, if_false]
    by_cases h2 : 0 ≤ a2 ∧ a2 ≤ 99
    · simp only [if_pos h2, if_true, i_10, if_false]
      obtain ⟨k, hk, rfl⟩ := b_4 h
      obtain ⟨i, hi, rfl⟩ := dI_of (n := 99) (by omega) h2.1 h2.2
      obtain ⟨w1, w2, w3, w4⟩ := hI.2.1.2.2.2.1 k hk
      rw [dI_in (by omega) (by omega), dk_gd_t, nI_clamp (by omega), w1]
      rcases w2 with w2 | w2
      · rw [w2, if_pos rfl, q_found1, some_bind']
        refine ⟨_, _, _, rfl, ?_, dk_I_fn (f := 1) (by omega) hI⟩
        rw [dk_gd_t, q_fnd_ne _ _ (by omega) (by omega), w2, if_pos rfl, q_notes1, some_bind']
      · have hv : c_b (S.1 (59 + 2 * k + 1)) i = S.1 92 (101 * k + 1 + i) := by
          unfold c_b
          rw [if_pos (by omega), show 59 + 2 * k + 1 = 60 + 2 * k by omega, w4 i (by omega)]
        rw [w2, if_neg (show ¬ (1 : Int32) = 0 by decide), dk_gd_t, q_bumpsOf _ (by omega), some_bind', hv, q_tell, some_bind', dk_gd_t]
        refine ⟨_, _, _, rfl, ?_, dk_I_tell (v := S.1 92 (101 * k + 1 + i)) hI⟩
        have e91 : (dk_sr S 0 (upd (S.1 0) 12 (S.1 92 (101 * k + 1 + i)))).1 91 k = 1 := by rw [dk_sr_ne _ _ (by omega)]; exact w2
        have e7 : (101 : Int32) * nI k = nI (101 * k) := by rw [show (101 : Int32) = nI 101 from rfl, nI_mul]
        have e8 : nI (101 * k) + (1 : Int32) + nI i = nI (101 * k + 1 + i) := by rw [nI_1, nI_add]
        rw [dk_gd_t, e91, if_neg (show ¬ (1 : Int32) = 0 by decide), e7, e8, dI_in (by omega) (by omega), dk_gd_t, dI_in (by omega) (by omega), dk_gd_t, nI_clamp (by omega), nI_clamp (by omega), q_tells, some_bind', dk_sr_ne _ _ (by omega : ¬ 92 = 0)]
        dsimp only
        rw [dk_sr_ne _ _ (by omega : ¬ 59 + 2 * k = 0), (w3 w2).1]
    · simp only [if_neg h2, i_10, if_false, if_true]
      exact ⟨_, _, _, rfl, rfl, dk_I_up hI⟩
  · simp only [if_neg h, i_10, if_false, if_true]
    exact ⟨_, _, _, rfl, rfl, dk_I_up hI⟩
