/-! told, about -/
theorem e_told {S : dk_S} (h : ∀ i, i < 7 → S.1 5 (3 + i) = S.1 98 (114 * 0 + (6 + i))) (x : Int32) : ∃ v, fX0_value 5 x S = some (v, S) ∧ ∀ T : dk_S, T.1 98 = S.1 98 → fX9_walkTells x T = some (v, T) := by
  have g0 : S.1 5 3 = S.1 98 6 := h 0 (by omega)
  have g1 : S.1 5 4 = S.1 98 7 := h 1 (by omega)
  have g2 : S.1 5 5 = S.1 98 8 := h 2 (by omega)
  have g3 : S.1 5 6 = S.1 98 9 := h 3 (by omega)
  have g4 : S.1 5 7 = S.1 98 10 := h 4 (by omega)
  have g5 : S.1 5 8 = S.1 98 11 := h 5 (by omega)
  have g6 : S.1 5 9 = S.1 98 12 := h 6 (by omega)
  unfold fX0_value fX9_walkTells
  rw [g0, g1, g2, g3, g4, g5, g6]
  by_cases h0 : x = 0
  · exact ⟨_, if_pos h0, fun T hT => by rw [hT, if_pos h0]⟩
  by_cases h1 : x = 1
  · exact ⟨_, by rw [if_neg h0, if_pos h1], fun T hT => by rw [hT, if_neg h0, if_pos h1]⟩
  by_cases h2 : x = 2
  · exact ⟨_, by rw [if_neg h0, if_neg h1, if_pos h2], fun T hT => by rw [hT, if_neg h0, if_neg h1, if_pos h2]⟩
  by_cases h3 : x = 3
  · exact ⟨_, by rw [if_neg h0, if_neg h1, if_neg h2, if_pos h3], fun T hT => by rw [hT, if_neg h0, if_neg h1, if_neg h2, if_pos h3]⟩
  by_cases h4 : x = 4
  · exact ⟨_, by rw [if_neg h0, if_neg h1, if_neg h2, if_neg h3, if_pos h4], fun T hT => by rw [hT, if_neg h0, if_neg h1, if_neg h2, if_neg h3, if_pos h4]⟩
  by_cases h5 : x = 5
  · exact ⟨_, by rw [if_neg h0, if_neg h1, if_neg h2, if_neg h3, if_neg h4, if_pos h5], fun T hT => by rw [hT, if_neg h0, if_neg h1, if_neg h2, if_neg h3, if_neg h4, if_pos h5]⟩
  exact ⟨_, by rw [if_neg h0, if_neg h1, if_neg h2, if_neg h3, if_neg h4, if_neg h5], fun T hT => by rw [hT, if_neg h0, if_neg h1, if_neg h2, if_neg h3, if_neg h4, if_neg h5]⟩
theorem pr_told (a1 : Int32) {n : Nat} {S : dk_S} (hn : n < 512) (hI : dk_I n S) : ∃ (r : Int32) (S1 S2 : dk_S), fX8_told a1 S = some (r, S1) ∧ fX9_told a1 S1 = some (r, S2) ∧ dk_I (n + 1) S2 := by
  unfold fX8_told fX9_told
  simp only [q_isOutside, q_in, some_bind']
  obtain ⟨c1, c2, c3⟩ := hI.2.1.2.2.2.2.1
  by_cases h : 0 ≤ a1 ∧ a1 ≤ 6
  · simp only [if_pos h, if_true, i_10, if_false]
    rw [c1]
    rcases c2 with c2 | c2
    · refine ⟨-4, S, S, by rw [c2, if_pos rfl], by rw [c2, if_pos rfl], dk_I_up hI⟩
    · obtain ⟨v, e1, e2⟩ := e_told (c3 c2).2.1 a1
      rw [c2, if_neg (show ¬ (1 : Int32) = 0 by decide), e1, some_bind', q_tell, some_bind']
      refine ⟨_, _, _, rfl, ?_, dk_I_tell (v := v) hI⟩
      have h97 : (dk_sr S 0 (upd (S.1 0) 12 v)).1 97 0 = 1 := by rw [dk_sr_ne _ _ (by omega)]; exact c2
      rw [h97, if_neg (show ¬ (1 : Int32) = 0 by decide), e2 _ (dk_sr_ne _ _ (by omega)), some_bind', q_tells, some_bind']
  · simp only [if_neg h, i_10, if_false, if_true]
    exact ⟨_, _, _, rfl, rfl, dk_I_up hI⟩
