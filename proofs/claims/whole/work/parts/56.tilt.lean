/-! tilt -/
theorem e_tilt {S : dk_S} {u : Nat} (hu : u ≤ 99) (h : i_K S) : i_K (dk_si (dk_si S 5 3 (nI u)) 98 6 (nI u)) := by
  obtain ⟨⟨c1, c2, c3⟩, hk⟩ := h
  have r5 : (dk_si (dk_si S 5 3 (nI u)) 98 6 (nI u)).1 5 = upd (S.1 5) 3 (nI u) := by rw [dk_si_eq, dk_sr_ne _ _ (by omega), dk_si_eq, dk_sr_same]
  have r98 : (dk_si (dk_si S 5 3 (nI u)) 98 6 (nI u)).1 98 = upd (S.1 98) 6 (nI u) := by rw [dk_si_eq, dk_sr_same, dk_si_eq, dk_sr_ne _ _ (by omega)]
  have ro : ∀ q, ¬ q = 5 → ¬ q = 98 → (dk_si (dk_si S 5 3 (nI u)) 98 6 (nI u)).1 q = S.1 q := fun q h1 h2 => by rw [dk_si_eq, dk_sr_ne _ _ h2, dk_si_eq, dk_sr_ne _ _ h1]
  generalize dk_si (dk_si S 5 3 (nI u)) 98 6 (nI u) = V at r5 r98 ro ⊢
  refine ⟨⟨by rw [r5, ro 97 (by omega) (by omega), upd_ne _ _ (by omega)]; exact c1, by rw [ro 97 (by omega) (by omega)]; exact c2, fun hc => ?_⟩, fun k hk3 => ?_⟩
  · rw [ro 97 (by omega) (by omega)] at hc
    obtain ⟨d1, d2, d3, d4, d5, d6, d7, d8, d9⟩ := c3 hc
    refine ⟨fun i hi => ?_, fun i hi => ?_, ?_, fun i hi => ?_, ?_, ⟨u, hu, by rw [r5, upd_same]⟩, ?_, ?_, ?_⟩
    · rw [ro 7 (by omega) (by omega), r98, upd_ne _ _ (by omega)]; exact d1 i hi
    · rw [r5, r98, upd_at, upd_at]
      by_cases h0 : i = 0
      · subst h0; rfl
      · rw [if_neg (by omega), if_neg (by omega)]; exact d2 i hi
    · rw [ro 8 (by omega) (by omega), r98, upd_ne _ _ (by omega)]; exact d3
    · rw [ro 9 (by omega) (by omega), r98, upd_ne _ _ (by omega)]; exact d4 i hi
    · rw [ro 7 (by omega) (by omega)]; exact d5
    · rw [r5, upd_ne _ _ (by omega)]; exact d7
    · rw [r5, upd_ne _ _ (by omega)]; exact d8
    · rw [r5, upd_ne _ _ (by omega)]; exact d9
  · obtain ⟨k1, k2, k3⟩ := hk k hk3
    refine ⟨by rw [ro (67 + 5 * k) (by omega) (by omega), ro 97 (by omega) (by omega)]; exact k1, by rw [ro 97 (by omega) (by omega)]; exact k2, fun hc => ?_⟩
    rw [ro 97 (by omega) (by omega)] at hc
    obtain ⟨d1, d2, d3, d4, d5, d6, d7, d8, d9⟩ := k3 hc
    refine ⟨fun i hi => ?_, fun i hi => ?_, ?_, fun i hi => ?_, ?_, ?_, ?_, ?_, ?_⟩
    · rw [ro (67 + 5 * k + 2) (by omega) (by omega), r98, upd_ne _ _ (by omega)]; exact d1 i hi
    · rw [ro (67 + 5 * k) (by omega) (by omega), r98, upd_ne _ _ (by omega)]; exact d2 i hi
    · rw [ro (67 + 5 * k + 3) (by omega) (by omega), r98, upd_ne _ _ (by omega)]; exact d3
    · rw [ro (67 + 5 * k + 4) (by omega) (by omega), r98, upd_ne _ _ (by omega)]; exact d4 i hi
    · rw [ro (67 + 5 * k + 2) (by omega) (by omega)]; exact d5
    · rw [ro (67 + 5 * k) (by omega) (by omega)]; exact d6
    · rw [ro (67 + 5 * k) (by omega) (by omega)]; exact d7
    · rw [ro (67 + 5 * k) (by omega) (by omega)]; exact d8
    · rw [ro (67 + 5 * k) (by omega) (by omega)]; exact d9
theorem pr_tilt (a1 : Int32) {n : Nat} {S : dk_S} (hn : n < 512) (hI : dk_I n S) : ∃ (r : Int32) (S1 S2 : dk_S), fX8_tilt a1 S = some (r, S1) ∧ fX9_tilt a1 S1 = some (r, S2) ∧ dk_I (n + 1) S2 := by
  unfold fX8_tilt fX9_tilt
  simp only [q_noSlope, q_in, some_bind']
  have hK := hI.2.1.2.2.2.2
  obtain ⟨c1, c2, c3⟩ := hK.1
  by_cases h : 0 ≤ a1 ∧ a1 ≤ 99
  · simp only [if_pos h, if_true, i_10, if_false, dk_lt_eq]
    rw [c1]
    rcases c2 with c2 | c2
    · refine ⟨-4, S, S, by rw [c2, if_pos rfl], by rw [c2, if_pos rfl], dk_I_up hI⟩
    · obtain ⟨u, hu, rfl⟩ := dI_of (n := 99) (by omega) h.1 h.2
      have g0 : S.1 5 3 = S.1 98 6 := (c3 c2).2.1 0 (by omega)
      rw [c2, if_neg (show ¬ (1 : Int32) = 0 by decide)]
      refine ⟨S.1 5 3, _, dk_si (dk_si S 5 3 (nI u)) 98 6 (nI u), rfl, ?_, dk_I_K hI (i_A_congr ?_ ?_ ?_ ?_ rfl hI.1) (e_tilt hu hK) (fun q hq => ?_) rfl⟩
      · have h97 : (dk_si S 5 3 (nI u)).1 97 0 = 1 := by rw [dk_si_eq, dk_sr_ne _ _ (by omega)]; exact c2
        rw [h97, if_neg (show ¬ (1 : Int32) = 0 by decide), show (dk_si S 5 3 (nI u)).1 98 6 = S.1 5 3 from by rw [dk_si_eq, dk_sr_ne _ _ (by omega), g0]]
      · rw [dk_si_eq, dk_sr_ne _ _ (by omega), dk_si_eq, dk_sr_ne _ _ (by omega)]
      · rw [dk_si_eq, dk_sr_ne _ _ (by omega), dk_si_eq, dk_sr_ne _ _ (by omega)]
      · rw [dk_si_eq, dk_sr_ne _ _ (by omega), dk_si_eq, dk_sr_ne _ _ (by omega)]
      · rw [dk_si_eq, dk_sr_ne _ _ (by omega), dk_si_eq, dk_sr_ne _ _ (by omega)]
      · rw [dk_si_eq, dk_sr_ne _ _ (by omega), dk_si_eq, dk_sr_ne _ _ (by omega)]
  · simp only [if_neg h, i_10, if_false, if_true]
    exact ⟨_, _, _, rfl, rfl, dk_I_up hI⟩
