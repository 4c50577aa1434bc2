theorem pr_tear (a1 : Int32) {n : Nat} {S : dk_S} (hn : n < 512) (hI : dk_I n S) : ∃ (r : Int32) (S1 S2 : dk_S), fX8_tear a1 S = some (r, S1) ∧ fX9_tear a1 S1 = some (r, S2) ∧ dk_I (n + 1) S2 := by
  unfold fX8_tear fX9_tear
  simp only [q_noRow, q_isRow, some_bind']
  by_cases h1 : 0 ≤ a1 ∧ a1 ≤ 5
  · simp only [h1, and_self, if_true, if_false, i_10]
    obtain ⟨r, hr, rfl⟩ := b_row h1
    obtain ⟨b1, b2, b3⟩ := hI.2.1.1 r hr
    simp only [dI_in hr (by omega : (6 : Nat) < 2 ^ 31), dk_gd_t, nI_clamp (by omega : r < 2 ^ 31)]
    rcases b2 with b2 | ⟨z, hz, b2⟩
    · simp only [c_miss (b1.trans b2), some_bind', i_10, if_false, q_found1]
      refine ⟨_, _, _, rfl, ?_, dk_I_fn (f := 1) (by omega) hI⟩
      rw [q_fnd_ne _ _ (by omega) (by omega), b2, if_neg m1_neg, q_notes1]
      rfl
    · simp only [c_there (b1.trans b2) (by omega), some_bind', if_true, dk_lt_eq]
      refine ⟨1, _, dk_si (dk_si S (31 + 2 * r) 1 (-1)) 84 r (-1), rfl, ?_, ?_⟩
      · rw [dk_si_eq, dk_sr_ne _ _ (by omega), b2, if_pos (nI_ge0 (by omega))]
      · refine dk_I_R hI (i_A_congr (S := S) ?_ ?_ ?_ ?_ rfl hI.1) ?_ (fun a ha => ?_) rfl
        · simp (disch := omega) only [dk_si_eq, dk_sr_ne]
        · simp (disch := omega) only [dk_si_eq, dk_sr_ne]
        · simp (disch := omega) only [dk_si_eq, dk_sr_ne]
        · simp (disch := omega) only [dk_si_eq, dk_sr_ne]
        · intro q hq
          obtain ⟨e1, e2, e3⟩ := hI.2.1.1 q hq
          by_cases hqr : q = r
          · subst hqr
            simp (disch := omega) only [dk_si_eq, dk_sr_ne, dk_sr_same, upd_same]
            exact ⟨trivial, Or.inl trivial, e3⟩
          · simp (disch := omega) only [dk_si_eq, dk_sr_ne, dk_sr_same, upd_ne]
            exact ⟨e1, e2, e3⟩
        · simp (disch := omega) only [dk_si_eq, dk_sr_ne]
  · simp only [h1, if_false, if_true, i_10]
    exact ⟨_, _, _, rfl, rfl, dk_I_up hI⟩
theorem pr_lay (a1 : Int32) (a2 : Int32) (a3 : Int32) {n : Nat} {S : dk_S} (hn : n < 512) (hI : dk_I n S) : ∃ (r : Int32) (S1 S2 : dk_S), fX8_lay a1 a2 a3 S = some (r, S1) ∧ fX9_lay a1 a2 a3 S1 = some (r, S2) ∧ dk_I (n + 1) S2 := by
  unfold fX8_lay fX9_lay
  simp only [q_noRow, q_isRow, some_bind']
  by_cases h1 : 0 ≤ a1 ∧ a1 ≤ 5
  · simp only [h1, and_self, if_true, if_false, i_10]
    obtain ⟨r, hr, rfl⟩ := b_row h1
    obtain ⟨b1, b2, b3⟩ := hI.2.1.1 r hr
    simp only [dI_in hr (by omega : (6 : Nat) < 2 ^ 31), dk_gd_t, nI_clamp (by omega : r < 2 ^ 31)]
    rcases b2 with b2 | ⟨z, hz, b2⟩
    · simp only [c_miss (b1.trans b2), some_bind', i_10, if_false, q_found1]
      refine ⟨_, _, _, rfl, ?_, dk_I_fn (f := 1) (by omega) hI⟩
      rw [q_fnd_ne _ _ (by omega) (by omega), b2, if_neg m1_neg, q_notes1]
      rfl
    · simp only [c_there (b1.trans b2) (by omega), some_bind', if_true, c_has (b1.trans b2) (by omega : z ≤ 80)]
      by_cases h2 : 0 ≤ a2 ∧ a2 ≤ nI z - 1
      · simp only [if_pos h2, i_10, if_false, q_tell, some_bind', q_in, q_tells]
        obtain ⟨i, hi, rfl⟩ := b_has (by omega) h2
        simp only [dI_in (by omega : i < 60) (by omega : (60 : Nat) < 2 ^ 31), dk_gd_t, nI_clamp (by omega : i < 2 ^ 31), dk_lt_eq]
        have hb := b3 i (by omega)
        rw [show 32 + 2 * r = 31 + 2 * r + 1 by omega] at hb
        refine ⟨1, _, dk_sr (dk_si (dk_sr (dk_si S (31 + 2 * r + 1) i a3) 0 (upd ((dk_si S (31 + 2 * r + 1) i a3).1 0) 12 (S.1 (31 + 2 * r + 1) i))) 85 (60 * r + i) a3) 82 (upd ((dk_si (dk_sr (dk_si S (31 + 2 * r + 1) i a3) 0 (upd ((dk_si S (31 + 2 * r + 1) i a3).1 0) 12 (S.1 (31 + 2 * r + 1) i))) 85 (60 * r + i) a3).1 82) 2 (S.1 85 (60 * r + i))), rfl, ?_, ?_⟩
        · have e84 : (dk_sr (dk_si S (31 + 2 * r + 1) i a3) 0 (upd ((dk_si S (31 + 2 * r + 1) i a3).1 0) 12 (S.1 (31 + 2 * r + 1) i))).1 84 = S.1 84 := by
            simp (disch := omega) only [dk_si_eq, dk_sr_ne]
          have e85 : (dk_sr (dk_si S (31 + 2 * r + 1) i a3) 0 (upd ((dk_si S (31 + 2 * r + 1) i a3).1 0) 12 (S.1 (31 + 2 * r + 1) i))).1 85 = S.1 85 := by
            simp (disch := omega) only [dk_si_eq, dk_sr_ne]
          rw [e84, b2, if_pos (nI_ge0 (by omega)), if_pos h2, if_neg (by decide), q_rowAt hr (by omega)]
          simp only [some_bind', e85]
          rw [show (60 : Int32) = nI 60 from rfl, nI_mul, nI_add, dI_in (by omega) (by omega), nI_clamp (by omega)]
          rfl
        · refine dk_I_R hI (i_A_tell (S := S) (v := S.1 (31 + 2 * r + 1) i) ?_ ?_ ?_ ?_ rfl hI.1) ?_ (fun a ha => ?_) rfl
          · simp (disch := omega) only [dk_si_eq, dk_sr_ne, dk_sr_same]
          · simp (disch := omega) only [dk_si_eq, dk_sr_ne]
          · rw [← hb]
            simp (disch := omega) only [dk_si_eq, dk_sr_ne, dk_sr_same]
          · simp (disch := omega) only [dk_si_eq, dk_sr_ne]
          · intro q hq
            obtain ⟨e1, e2, e3⟩ := hI.2.1.1 q hq
            by_cases hqr : q = r
            · subst hqr
              rw [show 32 + 2 * q = 31 + 2 * q + 1 by omega] at e3 ⊢
              simp (disch := omega) only [dk_si_eq, dk_sr_ne, dk_sr_same]
              refine ⟨e1, e2, fun j hj => ?_⟩
              by_cases hji : j = i
              · subst hji
                rw [upd_same, upd_same]
              · rw [upd_ne _ _ hji, upd_ne _ _ (by omega)]
                exact e3 j hj
            · simp (disch := omega) only [dk_si_eq, dk_sr_ne, dk_sr_same]
              refine ⟨e1, e2, fun j hj => ?_⟩
              rw [upd_ne _ _ (by omega)]
              exact e3 j hj
          · simp (disch := omega) only [dk_si_eq, dk_sr_ne]
      · simp only [if_neg h2, if_true, q_found2, some_bind', q_in]
        refine ⟨_, _, _, rfl, ?_, dk_I_fn (f := 2) (by omega) hI⟩
        rw [q_fnd_ne _ _ (by omega) (by omega), b2, if_pos (nI_ge0 (by omega)), if_neg h2, if_pos rfl, q_notes2]
        rfl
  · simp only [h1, if_false, if_true, i_10]
    exact ⟨_, _, _, rfl, rfl, dk_I_up hI⟩
/-! what is told -/
theorem pr_asked {n : Nat} {S : dk_S} (hn : n < 512) (hI : dk_I n S) : ∃ (r : Int32) (S1 S2 : dk_S), fX8_asked S = some (r, S1) ∧ fX9_asked S1 = some (r, S2) ∧ dk_I (n + 1) S2 := ⟨_, _, _, rfl, by unfold fX9_asked; rw [hI.1.2.2.1], dk_I_up hI⟩
theorem pr_upper {n : Nat} {S : dk_S} (hn : n < 512) (hI : dk_I n S) : ∃ (r : Int64) (S1 S2 : dk_S), fX8_upper S = some (r, S1) ∧ fX9_upper S1 = some (r, S2) ∧ dk_I (n + 1) S2 := ⟨_, _, _, rfl, by unfold fX9_upper; rw [hI.1.2.2.2.1], dk_I_up hI⟩
theorem pr_lower {n : Nat} {S : dk_S} (hn : n < 512) (hI : dk_I n S) : ∃ (r : Int64) (S1 S2 : dk_S), fX8_lower S = some (r, S1) ∧ fX9_lower S1 = some (r, S2) ∧ dk_I (n + 1) S2 := ⟨_, _, _, rfl, by unfold fX9_lower; rw [hI.1.2.2.2.2], dk_I_up hI⟩
theorem pr_finding {n : Nat} {S : dk_S} (hn : n < 512) (hI : dk_I n S) : ∃ (r : Int32) (S1 S2 : dk_S), fX8_finding S = some (r, S1) ∧ fX9_finding S1 = some (r, S2) ∧ dk_I (n + 1) S2 := ⟨_, _, _, rfl, by unfold fX9_finding; rw [hI.1.1], dk_I_up hI⟩
theorem pr_findings (a1 : Int32) {n : Nat} {S : dk_S} (hn : n < 512) (hI : dk_I n S) : ∃ (r : Int32) (S1 S2 : dk_S), fX8_findings a1 S = some (r, S1) ∧ fX9_findings a1 S1 = some (r, S2) ∧ dk_I (n + 1) S2 := by
  unfold fX8_findings fX9_findings
  simp only [q_isOutside, q_in, some_bind']
  by_cases h1 : 1 ≤ a1 ∧ a1 ≤ 5
  · simp only [h1, and_self, if_true, if_false, i_10]
    obtain ⟨f, hf, rfl⟩ := b_row (x := a1) ⟨by have := h1.1; rw [i32_le] at this ⊢; have h2 : (1 : Int32).toInt = 1 := rfl; have h3 : (0 : Int32).toInt = 0 := rfl; omega, h1.2⟩
    simp only [dI_in hf (by omega : (6 : Nat) < 2 ^ 31), dk_gd_t, nI_clamp (by omega : f < 2 ^ 31)]
    exact ⟨_, _, _, rfl, by rw [hI.1.2.1 f hf], dk_I_up hI⟩
  · simp only [h1, if_false, if_true, i_10]
    exact ⟨_, _, _, rfl, rfl, dk_I_up hI⟩
