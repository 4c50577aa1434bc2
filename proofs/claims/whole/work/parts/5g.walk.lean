/-! walk -/
theorem e_walk74 (k : Nat) (hk : k < 4) (x2 x3 x4 x5 : Int32) (kx : dk_S → Option (Int32 × dk_S)) : ∀ (m i : Nat) (S : dk_S), i ≤ 6 → 6 - i < m → fX9_walk_L74 (nI k) x2 x3 x4 x5 kx m (nI i) S = kx (dk_sr S 98 (fun j => if i ≤ j ∧ j < 6 then S.1 90 (7 * k + j) else S.1 98 j)) := by
  intro m
  induction m with
  | zero => intro i S h1 h2; omega
  | succ m ih =>
    intro i S h1 h2
    rw [fX9_walk_L74, show (7 : Int32) = nI 7 from rfl, nI_mul, nI_add]
    by_cases h : 6 ≤ i
    · rw [if_pos (show (6 : Int32) ≤ nI i from (nI_leI (a := 6) (by omega) (by omega)).mpr h)]
      congr 1
      conv => lhs; rw [← dk_sr_id S 98]
      congr 1
      funext j
      rw [if_neg (by omega)]
    · rw [if_neg (show ¬ (6 : Int32) ≤ nI i from fun q => h ((nI_leI (a := 6) (by omega) (by omega)).mp q)), dI_in (by omega) (by omega), dk_gd_t, dI_in (by omega) (by omega), dk_gd_t, dk_lt_eq, nI_1, nI_clamp (by omega), nI_clamp (by omega), ih (i + 1) _ (by omega) (by omega), dk_si_eq, dk_sr_sr, dk_sr_same, dk_sr_ne _ _ (by omega)]
      congr 2
      funext j
      by_cases hj : j = i
      · subst hj
        rw [if_neg (by omega), if_pos (by omega), upd_same]
      · rw [upd_ne _ _ hj]
        by_cases hj2 : i ≤ j ∧ j < 6
        · rw [if_pos hj2, if_pos (by omega)]
        · rw [if_neg hj2, if_neg (by omega)]
theorem e_walk109 (l : Nat) (hl : l < 4) (x3 x4 x5 : Int32) (kx : dk_S → Option (Int32 × dk_S)) : ∀ (m i : Nat) (S : dk_S), i ≤ 101 → 101 - i < m → fX9_walk_L109 (nI l) x3 x4 x5 kx m (nI i) S = kx (dk_sr S 98 (fun j => if 13 + i ≤ j ∧ j < 114 then S.1 92 (101 * l + (j - 13)) else S.1 98 j)) := by
  intro m
  induction m with
  | zero => intro i S h1 h2; omega
  | succ m ih =>
    intro i S h1 h2
    rw [fX9_walk_L109]
    have e1 : (101 : Int32) * nI l + nI i = nI (101 * l + i) := by rw [show (101 : Int32) = nI 101 from rfl, nI_mul, nI_add]
    have e2 : (13 : Int32) + nI i = nI (13 + i) := by rw [show (13 : Int32) = nI 13 from rfl, nI_add]
    by_cases h : i = 101
    · subst h
      rw [if_pos (show (101 : Int32) ≤ nI 101 from by decide)]
      congr 1
      conv => lhs; rw [← dk_sr_id S 98]
      congr 1
      funext j
      rw [if_neg (by omega)]
    · rw [if_neg (show ¬ (101 : Int32) ≤ nI i from fun q => by have := (nI_leI (a := 101) (by omega) (by omega)).mp q; omega), e1, e2, dI_in (by omega) (by omega), dk_gd_t, dI_in (by omega) (by omega), dk_gd_t, dk_lt_eq, nI_1, nI_clamp (by omega), nI_clamp (by omega), ih (i + 1) _ (by omega) (by omega), dk_si_eq, dk_sr_sr, dk_sr_same, dk_sr_ne _ _ (by omega)]
      congr 2
      funext j
      by_cases hj : j = 13 + i
      · subst hj
        rw [if_neg (by omega), if_pos (by omega), upd_same, show 13 + i - 13 = i by omega]
      · rw [upd_ne _ _ hj]
        by_cases hj2 : 13 + i ≤ j ∧ j < 114
        · rw [if_pos hj2, if_pos (by omega)]
        · rw [if_neg hj2, if_neg (by omega)]
/-- the model's walk, behind good numbers -/
noncomputable def w_mw (l : Nat) (s p f : Int32) (t14 : dk_S) : Option (Int32 × dk_S) := fX9_walk_L109 (nI l) s p f (fun t15 : dk_S => dk_lt (dk_si t15 98 6 s) (fun S16 => dk_lt (dk_si S16 98 9 0) (fun S17 => (fX9_starts p f S17).bind (fun r18 => (fX9_storeWalk r18).bind (fun r19 => dk_lt (dk_si r19 97 0 (vp_nar .boolean 1)) (fun S20 => (fX9_layWalk S20).bind (fun r21 => (fX9_gain r21).bind (fun r22 => some (r22.1, r22.2))))))))) dk_FU 0 t14
theorem q_mwalk {S : dk_S} {k l : Nat} (hk : k < 4) (hl : l < 4) (s p f : Int32) (hf : f = 0 ∨ f = 1) : ∃ V, fX9_walk_L74 (nI k) (nI l) s p f (w_mw l s p f) dk_FU 0 S = some (if f = 0 then (s * S.1 90 (7 * k + 3)) / 10 + S.1 90 (7 * k + 4) else (s * S.1 90 (7 * k + 3)) / 10 + S.1 90 (7 * k + 5), V) ∧ V.2 = S.2 ∧ (∀ q, ¬ q = 82 → ¬ q = 95 → ¬ q = 96 → ¬ q = 97 → ¬ q = 98 → V.1 q = S.1 q) ∧ (∀ j, j < 20 → V.1 82 j = S.1 82 j) ∧ V.1 97 = upd (S.1 97) 0 1 ∧ (∀ j, j < 6 → V.1 98 j = S.1 90 (7 * k + j)) ∧ V.1 98 6 = s ∧ V.1 98 7 = p ∧ V.1 98 8 = f ∧ V.1 98 9 = 0 ∧ V.1 98 10 = 0 ∧ V.1 98 11 = 0 ∧ V.1 98 12 = 0 ∧ (∀ j, j < 101 → V.1 98 (13 + j) = S.1 92 (101 * l + j)) ∧ (∀ j, 114 ≤ j → V.1 98 j = S.1 98 j) := by
  have h74 := e_walk74 k hk (nI l) s p f (w_mw l s p f) dk_FU 0 S (by omega) (by have := dk_FU_ge; omega)
  rw [nI_0] at h74
  rw [h74]
  unfold w_mw
  obtain ⟨A, hA⟩ : ∃ A, A = dk_sr S 98 (fun j => if 0 ≤ j ∧ j < 6 then S.1 90 (7 * k + j) else S.1 98 j) := ⟨_, rfl⟩
  rw [← hA]
  have h109 := e_walk109 l hl s p f (fun t15 : dk_S => dk_lt (dk_si t15 98 6 s) (fun S16 => dk_lt (dk_si S16 98 9 0) (fun S17 => (fX9_starts p f S17).bind (fun r18 => (fX9_storeWalk r18).bind (fun r19 => dk_lt (dk_si r19 97 0 (vp_nar .boolean 1)) (fun S20 => (fX9_layWalk S20).bind (fun r21 => (fX9_gain r21).bind (fun r22 => some (r22.1, r22.2))))))))) dk_FU 0 A (by omega) (by have := dk_FU_ge; omega)
  rw [nI_0] at h109
  rw [h109, dk_lt_eq, dk_lt_eq]
  obtain ⟨C, hC⟩ : ∃ C, C = dk_si (dk_si (dk_sr A 98 (fun j => if 13 + 0 ≤ j ∧ j < 114 then A.1 92 (101 * l + (j - 13)) else A.1 98 j)) 98 6 s) 98 9 0 := ⟨_, rfl⟩
  rw [← hC]
  have co : ∀ q, ¬ q = 98 → C.1 q = S.1 q := fun q q1 => by rw [hC, dk_si_eq, dk_sr_ne _ _ q1, dk_si_eq, dk_sr_ne _ _ q1, dk_sr_ne _ _ q1, hA, dk_sr_ne _ _ q1]
  have c2 : C.2 = S.2 := by rw [hC, hA]; rfl
  have cA : ∀ j, C.1 98 j = if j = 9 then 0 else if j = 6 then s else if 13 + 0 ≤ j ∧ j < 114 then S.1 92 (101 * l + (j - 13)) else if 0 ≤ j ∧ j < 6 then S.1 90 (7 * k + j) else S.1 98 j := fun j => by
    rw [hC, dk_si_eq, dk_sr_same, dk_si_eq, dk_sr_same, dk_sr_same, upd_at, upd_at, hA, dk_sr_same, dk_sr_ne _ _ (by omega : ¬ 92 = 98)]
  clear hC h109 h74 hA
  rw [q_starts, some_bind']
  obtain ⟨D, d1, d2, d3, d4, d5, d6, d7, d8, d9⟩ := q_store (dk_sr C 82 (m_row (C.1 82) p f 0 0 0))
  rw [d1, some_bind', dk_lt_eq, nar_1]
  rw [dk_sr_same] at d4 d5 d6 d7 d8
  rw [dk_sr_ne _ _ (by omega : ¬ 98 = 82)] at d9
  obtain ⟨L, l1, l2, l3, l4, l5, l6⟩ := q_layWalk (dk_si D 97 0 1)
  rw [l1, some_bind']
  have e98 : (dk_si D 97 0 1).1 98 = D.1 98 := by rw [dk_si_eq, dk_sr_ne _ _ (by omega)]
  rw [e98] at l5 l6
  have dj : ∀ j, j < 7 ∨ j = 9 ∨ 12 < j → D.1 98 j = if j = 9 then 0 else if j = 6 then s else if 13 + 0 ≤ j ∧ j < 114 then S.1 92 (101 * l + (j - 13)) else if 0 ≤ j ∧ j < 6 then S.1 90 (7 * k + j) else S.1 98 j := fun j hj => by rw [d9 j hj]; exact cA j
  have ds : ∀ j, j < 6 → D.1 98 j = S.1 90 (7 * k + j) := fun j hj => by rw [dj j (by omega), if_neg (by omega), if_neg (by omega), if_neg (by omega), if_pos (by omega)]
  have d6s : D.1 98 6 = s := by rw [dj 6 (by omega), if_neg (by omega), if_pos rfl]
  have d9s : D.1 98 9 = 0 := by rw [dj 9 (by omega), if_pos rfl]
  have l98 : L.1 98 = D.1 98 := by rw [l3 98 (by omega) (by omega) (by omega), e98]
  have hfL : L.1 82 26 = f := by rw [l6, m_row_26]; exact d5
  rw [q_mgain (by rw [hfL]; exact hf), some_bind', hfL]
  obtain ⟨t1, t2, t3, t4, t5, t6⟩ := l5
  rw [t1 3 (by omega), t1 4 (by omega), t1 5 (by omega), t3, t4, t5, Int32.add_zero, Int32.add_zero, ds 3 (by omega), ds 4 (by omega), ds 5 (by omega), d6s]
  refine ⟨L, rfl, ?_, fun q q1 q2 q3 q4 q5 => ?_, fun j hj => ?_, ?_, fun j hj => ?_, ?_, ?_, ?_, ?_, ?_, ?_, ?_, fun j hj => ?_, fun j hj => ?_⟩
  · rw [l2, dk_si_eq, dk_sr_2, d2, dk_sr_2, c2]
  · rw [l3 q q1 q2 q3, dk_si_eq, dk_sr_ne _ _ q4, d3 q q5, dk_sr_ne _ _ q1, co q q5]
  · rw [l4 j hj, dk_si_eq, dk_sr_ne _ _ (by omega), d3 82 (by omega), dk_sr_same, m_row_o _ _ _ _ _ _ (by omega), co 82 (by omega)]
  · rw [l3 97 (by omega) (by omega) (by omega), dk_si_eq, dk_sr_same, d3 97 (by omega), dk_sr_ne _ _ (by omega), co 97 (by omega)]
  · rw [l98]; exact ds j hj
  · rw [l98]; exact d6s
  · rw [l98]; exact d4
  · rw [l98]; exact d5
  · rw [l98]; exact d9s
  · rw [l98]; exact d6
  · rw [l98]; exact d7
  · rw [l98]; exact d8
  · rw [l98, dj (13 + j) (by omega), if_neg (by omega), if_neg (by omega), if_pos (by omega), show 13 + j - 13 = j by omega]
  · rw [l98, dj j (by omega), if_neg (by omega), if_neg (by omega), if_neg (by omega), if_neg (by omega)]
theorem pr_walk (a1 : Int32) (a2 : Int32) (a3 : Int32) (a4 : Int32) (a5 : Int32) {n : Nat} {S : dk_S} (hn : n < 512) (hI : dk_I n S) : ∃ (r : Int32) (S1 S2 : dk_S), fX8_walk a1 a2 a3 a4 a5 S = some (r, S1) ∧ fX9_walk a1 a2 a3 a4 a5 S1 = some (r, S2) ∧ dk_I (n + 1) S2 := by
  unfold fX8_walk fX9_walk
  simp only [q_isOutside, q_in, q_isPlace, some_bind']
  have hK := hI.2.1.2.2.2.2
  by_cases hg : h_g a1 a2 a3 a4
  · rw [q_nG_t hg, some_bind', if_pos rfl]
    by_cases h5 : 0 ≤ a5 ∧ a5 ≤ 1
    · have g1 := hg.1.1
      have g2 := hg.1.2.1
      have g3 := hg.1.2.2
      have g4 := hg.2
      simp only [if_pos h5, if_pos g1, if_pos g2, if_pos g3, if_pos g4, if_true, i_10, if_false]
      obtain ⟨k, l, t, a, hk, hl, ht, ha, rfl, rfl, rfl, rfl⟩ := h_g_of hg
      have hf : a5 = 0 ∨ a5 = 1 := by
        obtain ⟨x, hx, rfl⟩ := dI_of (n := 1) (by omega) h5.1 h5.2
        rcases (show x = 0 ∨ x = 1 by omega) with rfl | rfl
        · exact Or.inl rfl
        · exact Or.inr rfl
      obtain ⟨w1, w2, w3, w4, w5, w6⟩ := hI.2.1.2.2.1 k hk
      obtain ⟨b1, b2, b3, b4⟩ := hI.2.1.2.2.2.1 l hl
      rw [dI_in hk (by omega), dI_in hl (by omega), dk_gd_t, dk_gd_t, dk_gd_t, nI_clamp (by omega), nI_clamp (by omega), w1, b1]
      rcases w2 with w2 | w2
      · rw [w2, if_pos rfl, q_found1, some_bind']
        refine ⟨_, _, _, rfl, ?_, dk_I_fn (f := 1) (by omega) hI⟩
        rw [dk_gd_t, q_fnd_ne _ _ (by omega) (by omega), w2, if_pos rfl, q_notes1, some_bind']
      · rw [w2, if_neg (show ¬ (1 : Int32) = 0 by decide)]
        rcases b2 with b2 | b2
        · rw [b2, if_pos rfl, q_found1, some_bind']
          refine ⟨_, _, _, rfl, ?_, dk_I_fn (f := 1) (by omega) hI⟩
          rw [dk_gd_t, q_fnd_ne _ _ (by omega) (by omega), w2, if_neg (show ¬ (1 : Int32) = 0 by decide), dk_gd_t, q_fnd_ne _ _ (by omega) (by omega), b2, if_pos rfl, q_notes1, some_bind']
        · rw [b2, if_neg (show ¬ (1 : Int32) = 0 by decide), q_take _ _ _ (by omega), some_bind', dk_gd_t, q_take3 _ _ _ (by omega), some_bind', q_begin, some_bind', dk_lt_eq]
          generalize hU : dk_si (dk_sr _ 5 _) 5 2 1 = U
          have u5 : ∀ j, 2 ≤ j → U.1 5 j = upd (c_row (upd (fun _ => 0) 3 (nI t)) (nI a) a5 (nI 0) 0 0 0) 2 1 j ∨ 9 < j := fun j hj => by
            by_cases h9 : 9 < j
            · exact Or.inr h9
            · refine Or.inl ?_
              rw [← hU, dk_si_eq, dk_sr_same, dk_sr_same]
              have : j = 2 ∨ j = 3 ∨ j = 4 ∨ j = 5 ∨ j = 6 ∨ j = 7 ∨ j = 8 ∨ j = 9 := by omega
              rcases this with rfl | rfl | rfl | rfl | rfl | rfl | rfl | rfl <;> rfl
          have u7 : ∀ j, j < 6 → U.1 7 j = S.1 (52 + 2 * k) j := fun j hj => by
            rw [← hU]
            simp (disch := omega) only [dk_si_eq, dk_sr_ne, dk_sr_same]
            rw [if_pos hj, show 51 + 2 * k + 1 = 52 + 2 * k by omega]
          have u8 : U.1 8 1 = S.1 (59 + 2 * l) 1 := by
            rw [← hU]
            simp (disch := omega) only [dk_si_eq, dk_sr_ne, dk_sr_same, upd_same]
          have u9 : ∀ j, j < 100 → U.1 9 j = S.1 (60 + 2 * l) j := fun j hj => by
            rw [← hU]
            simp (disch := omega) only [dk_si_eq, dk_sr_ne, dk_sr_same]
            rw [if_pos hj, show 59 + 2 * l + 1 = 60 + 2 * l by omega]
          have uo : ∀ q, ¬ (5 ≤ q ∧ q ≤ 9) → U.1 q = S.1 q := fun q hq => by
            rw [← hU]
            simp (disch := omega) only [dk_si_eq, dk_sr_ne]
          have u2 : U.2 = S.2 := by rw [← hU]; rfl
          clear hU
          rw [q_gain, some_bind']
          obtain ⟨V, v1, v2, v3, v4, v5, v6, v7, v8, v9, v10, v11, v12, v13, v14, v15⟩ := q_mwalk (S := U) hk hl (nI t) (nI a) a5 hf
          have hs : ∀ j, j < 6 → U.1 7 j = V.1 98 j := fun j hj => by rw [u7 j hj, v6 j hj, uo 90 (by omega), w3 j hj]
          have b3' := b3 b2
          have hVC : i_C V 5 0 := by
            have f5 : ∀ j, 2 ≤ j → j ≤ 9 → V.1 5 j = upd (c_row (upd (fun _ => 0) 3 (nI t)) (nI a) a5 (nI 0) 0 0 0) 2 1 j := fun j h1 h2 => by
              rw [v3 5 (by omega) (by omega) (by omega) (by omega) (by omega)]
              exact (u5 j h1).resolve_right (by omega)
            have h97 : V.1 97 0 = 1 := by rw [v5, upd_same]
            refine ⟨by rw [h97, f5 2 (by omega) (by omega)]; rfl, Or.inr h97, fun _ => ⟨fun j hj => ?_, fun j hj => ?_, ?_, fun j hj => ?_, ?_, ⟨t, ht, f5 3 (by omega) (by omega)⟩, ?_, ⟨0, by omega, f5 6 (by omega) (by omega)⟩, Or.inl (f5 7 (by omega) (by omega))⟩⟩
            · show V.1 7 j = _
              rw [v3 7 (by omega) (by omega) (by omega) (by omega) (by omega), hs j hj, show 114 * 0 + j = j by omega]
            · rw [f5 (3 + j) (by omega) (by omega)]
              have : j = 0 ∨ j = 1 ∨ j = 2 ∨ j = 3 ∨ j = 4 ∨ j = 5 ∨ j = 6 := by omega
              rcases this with rfl | rfl | rfl | rfl | rfl | rfl | rfl
              · exact v7.symm
              · exact v8.symm
              · exact v9.symm
              · exact v10.symm
              · exact v11.symm
              · exact v12.symm
              · exact v13.symm
            · show V.1 8 1 = _
              rw [v3 8 (by omega) (by omega) (by omega) (by omega) (by omega), u8, show 114 * 0 + 13 = 13 + 0 by omega, v14 0 (by omega), uo 92 (by omega), b3'.1, Nat.add_zero]
            · show V.1 9 j = _
              rw [v3 9 (by omega) (by omega) (by omega) (by omega) (by omega), u9 j hj, show 114 * 0 + (14 + j) = 13 + (1 + j) by omega, v14 (1 + j) (by omega), uo 92 (by omega), b4 j hj, show 101 * l + (1 + j) = 101 * l + 1 + j by omega]
            · show i_sz (V.1 7)
              rw [v3 7 (by omega) (by omega) (by omega) (by omega) (by omega)]
              obtain ⟨a, b, c, d, x, y, e0, e1, e2, e3, e4, e5, rr⟩ := w6 w2
              exact ⟨a, b, c, d, x, y, by rw [u7 0 (by omega)]; exact e0, by rw [u7 1 (by omega)]; exact e1, by rw [u7 2 (by omega)]; exact e2, by rw [u7 3 (by omega)]; exact e3, by rw [u7 4 (by omega)]; exact e4, by rw [u7 5 (by omega)]; exact e5, rr⟩
            · rw [f5 5 (by omega) (by omega)]; exact hf
          have hVK : i_K V := i_K_go hK hVC (fun f hf => by rw [v5, upd_ne _ _ (by omega), uo 97 (by omega)]) (fun j hj => by rw [v15 j hj, uo 98 (by omega)]) (fun q q1 q2 => by rw [v3 q (by omega) (by omega) (by omega) (by omega) (by omega), uo q (by omega)])
          have vS : ∀ q, ¬ q = 82 → ¬ q = 95 → ¬ q = 96 → ¬ q = 97 → ¬ q = 98 → ¬ (5 ≤ q ∧ q ≤ 9) → V.1 q = S.1 q := fun q q1 q2 q3 q4 q5 q6 => by rw [v3 q q1 q2 q3 q4 q5, uo q q6]
          have vv2 : V.2 = S.2 := by rw [v2, u2]
          refine ⟨_, U, V, rfl, ?_, dk_I_K hI (i_A_go (S := S) (vS 0 (by omega) (by omega) (by omega) (by omega) (by omega) (by omega)) (vS 30 (by omega) (by omega) (by omega) (by omega) (by omega) (by omega)) (fun j hj => by rw [v4 j hj, uo 82 (by omega)]) (vS 83 (by omega) (by omega) (by omega) (by omega) (by omega) (by omega)) vv2 hI.1) hVK (fun q hq => vS q (by omega) (by omega) (by omega) (by omega) (by omega) (by omega)) vv2⟩
          rw [dk_gd_t, uo 89 (by omega), w2, if_neg (show ¬ (1 : Int32) = 0 by decide), dk_gd_t, uo 91 (by omega), b2, if_neg (show ¬ (1 : Int32) = 0 by decide)]
          have hres : (if a5 = 0 then nI t * U.1 (6 + 1) 3 / 10 + U.1 (6 + 1) 4 else nI t * U.1 (6 + 1) 3 / 10 + U.1 (6 + 1) 5) = (if a5 = 0 then (nI t * U.1 90 (7 * k + 3)) / 10 + U.1 90 (7 * k + 4) else (nI t * U.1 90 (7 * k + 3)) / 10 + U.1 90 (7 * k + 5)) := by
            rw [show (6 + 1 : Nat) = 7 from rfl, hs 3 (by omega), hs 4 (by omega), hs 5 (by omega), v6 3 (by omega), v6 4 (by omega), v6 5 (by omega)]
          rw [hres]
          exact v1
    · simp only [if_neg h5, if_pos hg.1.1, if_pos hg.1.2.1, if_pos hg.1.2.2, if_pos hg.2, i_10, if_false, if_true]
      exact ⟨_, _, _, rfl, rfl, dk_I_up hI⟩
  · rw [q_nG_f hg, some_bind', if_neg (show ¬ (1 : Int32) = 0 by decide)]
    refine ⟨_, _, S, rfl, ?_, dk_I_up hI⟩
    by_cases g1 : 0 ≤ a1 ∧ a1 ≤ 3
    · by_cases g2 : 0 ≤ a2 ∧ a2 ≤ 3
      · by_cases g3 : 0 ≤ a3 ∧ a3 ≤ 99
        · by_cases g4 : 0 ≤ a4 ∧ a4 ≤ 99
          · exact absurd ⟨⟨g1, g2, g4⟩, g3⟩ hg
          · simp only [if_pos g1, if_pos g2, if_pos g3, if_neg g4, i_10, if_false, if_true]
        · simp only [if_pos g1, if_pos g2, if_neg g3, i_10, if_false, if_true]
      · simp only [if_pos g1, if_neg g2, i_10, if_false, if_true]
    · simp only [if_neg g1, i_10, if_false, if_true]
