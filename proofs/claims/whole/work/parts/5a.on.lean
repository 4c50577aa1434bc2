/-! on -/
theorem pr_on (a1 : Int32) {n : Nat} {S : dk_S} (hn : n < 512) (hI : dk_I n S) : ∃ (r : Int32) (S1 S2 : dk_S), fX8_on a1 S = some (r, S1) ∧ fX9_on a1 S1 = some (r, S2) ∧ dk_I (n + 1) S2 := by
  unfold fX8_on fX9_on
  simp only [q_isOutside, q_in, some_bind']
  have hK := hI.2.1.2.2.2.2
  by_cases h : 0 ≤ a1 ∧ a1 ≤ 2
  · simp only [if_pos h, if_true, i_10, if_false]
    obtain ⟨k, hk, rfl⟩ := dI_of (n := 2) (by omega) h.1 h.2
    have hKk := hK.2 k (by omega)
    obtain ⟨c1, c2, c3⟩ := id hKk
    have e1 : (1 : Int32) + nI k = nI (1 + k) := by rw [show (1 : Int32) = nI 1 from rfl, nI_add]
    rw [dI_in (by omega) (by omega), dk_gd_t, nI_clamp (by omega), c1]
    simp only [e1, dI_in (show 1 + k < 4 by omega) (by omega), dk_gd_t, nI_clamp (show 1 + k < 2 ^ 31 by omega)]
    rw [Nat.add_comm k 1] at c1 c2 c3 hKk ⊢
    rcases c2 with c2 | c2
    · rw [c2, if_pos rfl, q_found1, some_bind']
      refine ⟨_, _, _, rfl, ?_, dk_I_fn (f := 1) (by omega) hI⟩
      rw [q_fnd_ne _ _ (by omega) (by omega), c2, if_pos rfl, q_notes1, some_bind']
    · obtain ⟨T, t1, t2, t3, t4, t5, t6, t7⟩ := q_take0 5 (67 + 5 * k) S (by omega) (by rw [c1, c2]; exact Or.inr rfl)
      rw [c2, if_neg (show ¬ (1 : Int32) = 0 by decide), t1, some_bind']
      have h97 : T.1 97 (1 + k) = 1 := by rw [t3 97 (by omega)]; exact c2
      have hcw := q_copyWalk (a := 1 + k) (b := 0) (by omega) (by omega) (by omega) T
      rw [nI_0] at hcw
      generalize hV : dk_si (dk_sr T 98 (fun j => if 114 * 0 ≤ j ∧ j < 114 * 0 + 114 then T.1 98 (114 * (1 + k) + (j - 114 * 0)) else T.1 98 j)) 97 0 1 = V
      have v97 : V.1 97 = upd (S.1 97) 0 1 := by rw [← hV, dk_si_eq, dk_sr_same, dk_sr_ne _ _ (by omega), t3 97 (by omega)]
      have v98 : ∀ j, V.1 98 j = if 114 * 0 ≤ j ∧ j < 114 * 0 + 114 then S.1 98 (114 * (1 + k) + (j - 114 * 0)) else S.1 98 j := fun j => by rw [← hV, dk_si_eq, dk_sr_ne _ _ (by omega), dk_sr_same, t3 98 (by omega)]
      have vT : ∀ q, ¬ q = 97 → ¬ q = 98 → V.1 q = T.1 q := fun q h1 h2 => by rw [← hV, dk_si_eq, dk_sr_ne _ _ h1, dk_sr_ne _ _ h2]
      have vo : ∀ q, ¬ q = 97 → ¬ q = 98 → ¬ (5 ≤ q ∧ q ≤ 5 + 4) → V.1 q = S.1 q := fun q h1 h2 h3 => by rw [vT q h1 h2, t3 q h3]
      have v2 : V.2 = S.2 := by rw [← hV]; exact t2
      have hVK : i_K V := by
        refine ⟨i_C_copy hKk c2 (by rw [v97, upd_same]) (fun j hj => by rw [v98, if_pos (by omega), show 114 * 0 + j - 114 * 0 = j by omega]) (fun j hj => by rw [vT _ (by omega) (by omega)]; exact t4 j hj) (by rw [vT _ (by omega) (by omega)]; exact t5) (fun j hj => by rw [vT _ (by omega) (by omega)]; exact t6 j hj) (fun j h1 h2 => by rw [vT _ (by omega) (by omega)]; exact t7 j h1 h2), fun l hl => ?_⟩
        exact i_C_same (hK.2 l hl) (by rw [v97, upd_ne _ _ (by omega)]) (fun j hj => by rw [v98, if_neg (by omega)]) (vo _ (by omega) (by omega) (by omega)) (vo _ (by omega) (by omega) (by omega)) (vo _ (by omega) (by omega) (by omega)) (vo _ (by omega) (by omega) (by omega))
      refine ⟨T.1 5 6, T, V, rfl, ?_, dk_I_K hI (i_A_congr (S := S) (vo 0 (by omega) (by omega) (by omega)) (vo 30 (by omega) (by omega) (by omega)) (vo 82 (by omega) (by omega) (by omega)) (vo 83 (by omega) (by omega) (by omega)) v2 hI.1) hVK (fun q hq => vo q (by omega) (by omega) (by omega)) v2⟩
      have g0 : S.1 (67 + 5 * k) 6 = S.1 98 (114 * (1 + k) + 9) := (c3 c2).2.1 3 (by omega)
      rw [h97, if_neg (show ¬ (1 : Int32) = 0 by decide), hcw, some_bind', dk_lt_eq, nar_1, hV, v98, if_pos (by omega), t7 6 (by omega) (by omega), g0]
  · simp only [if_neg h, i_10, if_false, if_true]
    exact ⟨_, _, _, rfl, rfl, dk_I_up hI⟩
