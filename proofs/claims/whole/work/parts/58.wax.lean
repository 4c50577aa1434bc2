/-! wax -/
theorem e_wax {S : dk_S} {k j v : Nat} (hk : k < 4) (hj : j ≤ 1) (hv : v ≤ 9) (h : i_W S) : i_W (dk_si (dk_si S (52 + 2 * k) (4 + j) (nI v)) 90 (7 * k + 4 + j) (nI v)) := by
  have r5 : (dk_si (dk_si S (52 + 2 * k) (4 + j) (nI v)) 90 (7 * k + 4 + j) (nI v)).1 (52 + 2 * k) = upd (S.1 (52 + 2 * k)) (4 + j) (nI v) := by rw [dk_si_eq, dk_sr_ne _ _ (by omega), dk_si_eq, dk_sr_same]
  have r90 : (dk_si (dk_si S (52 + 2 * k) (4 + j) (nI v)) 90 (7 * k + 4 + j) (nI v)).1 90 = upd (S.1 90) (7 * k + 4 + j) (nI v) := by rw [dk_si_eq, dk_sr_same, dk_si_eq, dk_sr_ne _ _ (by omega)]
  have ro : ∀ q, ¬ q = 52 + 2 * k → ¬ q = 90 → (dk_si (dk_si S (52 + 2 * k) (4 + j) (nI v)) 90 (7 * k + 4 + j) (nI v)).1 q = S.1 q := fun q h1 h2 => by rw [dk_si_eq, dk_sr_ne _ _ h2, dk_si_eq, dk_sr_ne _ _ h1]
  generalize dk_si (dk_si S (52 + 2 * k) (4 + j) (nI v)) 90 (7 * k + 4 + j) (nI v) = V at r5 r90 ro ⊢
  intro l hl
  obtain ⟨w1, w2, w3, w4, w5, w6⟩ := h l hl
  have q1 := ro (51 + 2 * l) (by omega) (by omega)
  have q2 := ro 89 (by omega) (by omega)
  rw [q1, q2, r90, upd_ne _ _ (by omega : ¬ 7 * l + 6 = 7 * k + 4 + j)]
  refine ⟨w1, w2, fun i hi => ?_, w4, w5, fun h1 => ?_⟩
  · by_cases hlk : l = k
    · subst hlk
      rw [r5, upd_at, upd_at, w3 i hi]
      by_cases he : i = 4 + j
      · rw [if_pos he, if_pos (by omega)]
      · rw [if_neg he, if_neg (by omega)]
    · rw [ro (52 + 2 * l) (by omega) (by omega), upd_ne _ _ (by omega)]; exact w3 i hi
  · have hs := w6 h1
    by_cases hlk : l = k
    · subst hlk
      rw [r5]
      obtain ⟨a, b, c, d, x, y, e0, e1, e2, e3, e4, e5, h0, h1, h2, h3, h4, h5⟩ := hs
      refine ⟨a, b, c, d, if 4 = 4 + j then v else x, if 5 = 4 + j then v else y, ?_, ?_, ?_, ?_, ?_, ?_, h0, h1, h2, h3, ?_, ?_⟩
      · rw [upd_ne _ _ (by omega)]; exact e0
      · rw [upd_ne _ _ (by omega)]; exact e1
      · rw [upd_ne _ _ (by omega)]; exact e2
      · rw [upd_ne _ _ (by omega)]; exact e3
      · rw [upd_at, e4]; split <;> rfl
      · rw [upd_at, e5]; split <;> rfl
      · split <;> omega
      · split <;> omega
    · rw [ro (52 + 2 * l) (by omega) (by omega)]; exact hs
theorem pr_wax (a1 : Int32) (a2 : Int32) (a3 : Int32) {n : Nat} {S : dk_S} (hn : n < 512) (hI : dk_I n S) : ∃ (r : Int32) (S1 S2 : dk_S), fX8_wax a1 a2 a3 S = some (r, S1) ∧ fX9_wax a1 a2 a3 S1 = some (r, S2) ∧ dk_I (n + 1) S2 := by
  unfold fX8_wax fX9_wax
  simp only [q_noWalker, q_isOutside, q_isPlace, q_in, some_bind']
  by_cases h : 0 ≤ a1 ∧ a1 ≤ 3
  · simp only [if_pos h, if_true, i_10, if_false]
    by_cases h2 : 0 ≤ a2 ∧ a2 ≤ 1
    · simp only [if_pos h2, if_true, i_10, if_false]
      by_cases h3 : 0 ≤ a3 ∧ a3 ≤ 9
      · simp only [if_pos h3, if_true, i_10, if_false]
        obtain ⟨k, hk, rfl⟩ := b_4 h
        obtain ⟨j, hj, rfl⟩ := dI_of (n := 1) (by omega) h2.1 h2.2
        obtain ⟨v, hv, rfl⟩ := dI_of (n := 9) (by omega) h3.1 h3.2
        have hW := hI.2.1.2.2.1
        obtain ⟨w1, w2, w3, w4, -⟩ := hW k hk
        have e4 : (4 : Int32) + nI j = nI (4 + j) := by rw [show (4 : Int32) = nI 4 from rfl, nI_add]
        have e7 : (7 : Int32) * nI k + 4 + nI j = nI (7 * k + 4 + j) := by rw [show (7 : Int32) = nI 7 from rfl, show (4 : Int32) = nI 4 from rfl, nI_mul, nI_add, nI_add]
        simp only [e4, e7, dI_in (show k < 4 by omega) (by omega), dI_in (show 4 + j < 6 by omega) (by omega), dI_in (show 7 * k + 4 + j < 28 by omega) (by omega), dk_gd_t, dk_lt_eq, nI_clamp (show k < 2 ^ 31 by omega), nI_clamp (show 4 + j < 2 ^ 31 by omega), nI_clamp (show 7 * k + 4 + j < 2 ^ 31 by omega)]
        rw [w1]
        rcases w2 with w2 | w2
        · rw [w2, if_pos rfl, q_found1, some_bind']
          refine ⟨_, _, _, rfl, ?_, dk_I_fn (f := 1) (by omega) hI⟩
          rw [q_fnd_ne _ _ (by omega) (by omega), w2, if_pos rfl, q_notes1, some_bind']
        · rw [w2, if_neg (show ¬ (1 : Int32) = 0 by decide), show 51 + 2 * k + 1 = 52 + 2 * k by omega]
          refine ⟨_, _, dk_si (dk_si S (52 + 2 * k) (4 + j) (nI v)) 90 (7 * k + 4 + j) (nI v), rfl, ?_, dk_I_W hI (i_A_congr (S := S) ?_ ?_ ?_ ?_ rfl hI.1) (e_wax hk hj hv hW) (fun q hq => ?_) rfl⟩
          · have e89 : (dk_si S (52 + 2 * k) (4 + j) (nI v)).1 89 k = 1 := by rw [dk_si_eq, dk_sr_ne _ _ (by omega)]; exact w2
            rw [e89, if_neg (show ¬ (1 : Int32) = 0 by decide), show (dk_si S (52 + 2 * k) (4 + j) (nI v)).1 90 (7 * k + 4 + j) = S.1 (52 + 2 * k) (4 + j) from by rw [dk_si_eq, dk_sr_ne _ _ (by omega), w3 (4 + j) (by omega), Nat.add_assoc]]
          · rw [dk_si_eq, dk_sr_ne _ _ (by omega), dk_si_eq, dk_sr_ne _ _ (by omega)]
          · rw [dk_si_eq, dk_sr_ne _ _ (by omega), dk_si_eq, dk_sr_ne _ _ (by omega)]
          · rw [dk_si_eq, dk_sr_ne _ _ (by omega), dk_si_eq, dk_sr_ne _ _ (by omega)]
          · rw [dk_si_eq, dk_sr_ne _ _ (by omega), dk_si_eq, dk_sr_ne _ _ (by omega)]
          · rw [dk_si_eq, dk_sr_ne _ _ (by omega), dk_si_eq, dk_sr_ne _ _ (by omega)]
      · simp only [if_neg h3, i_10, if_false, if_true]
        exact ⟨_, _, _, rfl, rfl, dk_I_up hI⟩
    · simp only [if_neg h2, i_10, if_false, if_true]
      exact ⟨_, _, _, rfl, rfl, dk_I_up hI⟩
  · simp only [if_neg h, i_10, if_false, if_true]
    exact ⟨_, _, _, rfl, rfl, dk_I_up hI⟩
