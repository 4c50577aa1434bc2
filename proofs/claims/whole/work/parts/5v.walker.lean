/-! walker -/
theorem e_fill2 (k n0 e : Nat) (v : Int32) (he : e ≤ n0) (hn : n0 < 20000) : ∀ (m i : Nat) (S : dk_S), i ≤ e → e - i < m → fJ7_fill_fda19_L10 k n0 (nI e) v m (nI i) S = some (dk_sr S k (fun j => if i ≤ j ∧ j < e then v else S.1 k j)) := by
  intro m
  induction m with
  | zero => intro i S h1 h2; omega
  | succ m ih =>
    intro i S h1 h2
    rw [fJ7_fill_fda19_L10]
    by_cases h : i = e
    · subst h
      rw [if_pos (Int32.le_refl _)]
      congr 1
      conv => lhs; rw [← dk_sr_id S k]
      congr 1
      funext j
      rw [if_neg (by omega)]
    · rw [if_neg (fun q => by have := (nI_leI (by omega) (by omega)).mp q; omega), dI_in (by omega) (by omega), dk_gd_t, dk_lt_eq, nI_clamp (by omega), nI_1, ih (i + 1) _ (by omega) (by omega), dk_si_eq, dk_sr_sr, dk_sr_same]
      congr 2
      funext j
      by_cases hj : j = i
      · subst hj
        rw [if_neg (by omega), if_pos (by omega), upd_same]
      · rw [upd_ne _ _ hj]
        by_cases hj2 : i ≤ j ∧ j < e
        · rw [if_pos hj2, if_pos (by omega)]
        · rw [if_neg hj2, if_neg (by omega)]
theorem q_fill2 {k n0 i e : Nat} {v : Int32} {S : dk_S} (hi : i ≤ e) (he : e ≤ n0) (hn : n0 < 20000) : fJ7_fill_fda19 k n0 (nI i) (nI e) v S = some (dk_sr S k (fun j => if i ≤ j ∧ j < e then v else S.1 k j)) := by
  unfold fJ7_fill_fda19 fJ7_rangeCheck_23922
  rw [show Int32.ofNat n0 = nI n0 from rfl, if_pos ((nI_leI (by omega) (by omega)).mpr hi), if_pos (nI_ge0 (by omega)), if_pos ((nI_leI (by omega) (by omega)).mpr he), some_bind']
  exact e_fill2 k n0 e v he hn dk_FU i S hi (by have := dk_FU_ge; omega)
def z_0 : Nat → Int32 := fun j => if j < 4 then 5 else 0
theorem q_clear1 (S : dk_S) : ∃ T, fX1_clear 12 S = some T ∧ (∀ j, j < 6 → T.1 13 j = z_0 j) ∧ T.1 12 1 = 0 ∧ c_rd S T := by
  unfold fX1_clear
  have h1 := q_fill2 (k := 13) (n0 := 6) (i := 0) (e := 4) (v := 5) (S := S) (by omega) (by omega) (by omega)
  have h1' : fJ7_fill_fda19 (12 + 1) 6 0 4 5 S = _ := h1
  rw [h1', some_bind']
  obtain ⟨A, hA⟩ : ∃ A, A = dk_sr S 13 (fun j => if 0 ≤ j ∧ j < 4 then 5 else S.1 13 j) := ⟨_, rfl⟩
  rw [← hA]
  have h2 := q_fill2 (k := 13) (n0 := 6) (i := 4) (e := 6) (v := 0) (S := A) (by omega) (by omega) (by omega)
  have h2' : fJ7_fill_fda19 (12 + 1) 6 4 6 0 A = _ := h2
  rw [h2', some_bind', dk_lt_eq]
  refine ⟨_, rfl, fun j hj => ?_, ?_, ⟨fun q hq => ?_, ?_⟩⟩
  · rw [dk_si_eq, dk_sr_ne _ _ (by omega), dk_sr_same]
    unfold z_0
    by_cases h4 : j < 4
    · rw [if_neg (by omega), if_pos h4, hA, dk_sr_same, if_pos (by omega)]
    · rw [if_pos (by omega), if_neg h4]
  · rw [dk_si_eq, dk_sr_same, upd_same]
  · rw [dk_si_eq, dk_sr_ne _ _ (by omega), dk_sr_ne _ _ (by omega), hA, dk_sr_ne _ _ (by omega)]
  · rw [dk_si_eq, dk_sr_2, dk_sr_2, hA, dk_sr_2]
theorem q_readDuck {t N : Nat} {b : Nat → Int32} {S : dk_S} (h : x_T t N b S) : ∃ T, fX4_readDuck (43 + 2 * t) S = some ((f_w b N (N + 1) 0 z_0 0).1, T) ∧ c_rd S T ∧ (∀ j, j < 6 → T.1 13 j = (f_w b N (N + 1) 0 z_0 0).2.1 j) ∧ T.1 12 1 = (f_w b N (N + 1) 0 z_0 0).2.2 := by
  have hN := h.2.1
  unfold fX4_readDuck
  obtain ⟨A, a1, a2, a3, a4⟩ := q_clear1 S
  rw [a1, some_bind', dk_lt_eq]
  have hc : c_rd S (dk_si A 11 3 (-9)) := a4.tr (c_rd.si (by omega))
  obtain ⟨T, t1, t2, t3, t4⟩ := e_crd (t := t) (N := N) (b := b) (N + 1) dk_FU 0 0 z_0 0 (dk_si A 11 3 (-9)) (by omega) (by have := dk_FU_ge; omega) (by omega) (by omega) (hc.T h) (fun j hj => by rw [dk_si_eq, dk_sr_ne _ _ (by omega)]; exact a2 j hj) (by rw [dk_si_eq, dk_sr_ne _ _ (by omega)]; exact a3) (by rw [dk_si_eq, dk_sr_same, upd_same])
  exact ⟨T, t1, hc.tr t2, t3, t4⟩
theorem e_wf7 {x1 : Int32} (kx : dk_S → Option (Int32 × dk_S)) : ∀ (m i : Nat) (S : dk_S), i ≤ 7 → 7 - i < m → fX9_walkerFault_L7 x1 kx m (nI i) S = kx (dk_sr S 93 (fun j => if i ≤ j ∧ j < 7 then z_0 j else S.1 93 j)) := by
  intro m
  induction m with
  | zero => intro i S h1 h2; omega
  | succ m ih =>
    intro i S h1 h2
    rw [fX9_walkerFault_L7]
    by_cases h : i = 7
    · subst h
      rw [if_pos (show (7 : Int32) ≤ nI 7 from by decide)]
      congr 1
      conv => lhs; rw [← dk_sr_id S 93]
      congr 1
      funext j
      rw [if_neg (by omega)]
    · rw [if_neg (show ¬ (7 : Int32) ≤ nI i from fun q => by have := (nI_leI (a := 7) (by omega) (by omega)).mp q; omega), dk_lt_eq, dI_in (by omega) (by omega), dk_gd_t, dk_lt_eq, nI_clamp (by omega), nI_1, ih (i + 1) _ (by omega) (by omega), dk_si_eq, dk_sr_sr, dk_sr_same]
      congr 2
      have hz : (if 4 ≤ nI i then (0 : Int32) else 5) = z_0 i := by
        unfold z_0
        by_cases h4 : i < 4
        · rw [if_neg (fun q => by have := (nI_leI (a := 4) (by omega) (by omega)).mp q; omega), if_pos h4]
        · rw [if_pos (show (4 : Int32) ≤ nI i from (nI_leI (a := 4) (by omega) (by omega)).mpr (by omega)), if_neg h4]
      rw [hz]
      funext j
      by_cases hj : j = i
      · subst hj
        rw [if_neg (by omega), if_pos (by omega), upd_same]
      · rw [upd_ne _ _ hj]
        by_cases hj2 : i ≤ j ∧ j < 7
        · rw [if_pos hj2, if_pos (by omega)]
        · rw [if_neg hj2, if_neg (by omega)]
theorem m_rd.r93 {S : dk_S} {q : Nat} {g : Nat → Int32} (h : q = 93 ∨ q = 94) : m_rd S (dk_sr S q g) := ⟨fun p _ h2 h3 => by rw [dk_sr_ne _ _ (by omega)], rfl, fun i h1 h2 h3 => by rw [dk_sr_ne _ _ (by omega)]⟩
theorem q_walkerFault {t N : Nat} {b : Nat → Int32} {S : dk_S} (h : x_T t N b S) : ∃ T, fX9_walkerFault (nI t) S = some ((f_w b N (N + 1) 0 z_0 0).1, T) ∧ m_rd S T ∧ (∀ j, j < 6 → T.1 93 j = (f_w b N (N + 1) 0 z_0 0).2.1 j) ∧ T.1 93 6 = (f_w b N (N + 1) 0 z_0 0).2.2 := by
  have hN := h.2.1
  unfold fX9_walkerFault
  rw [dk_lt_eq, ← nI_0, e_wf7 _ dk_FU 0 _ (by omega) (by have := dk_FU_ge; omega)]
  have hc : m_rd S (dk_sr (dk_si S 82 14 (nI 0)) 93 (fun j => if 0 ≤ j ∧ j < 7 then z_0 j else (dk_si S 82 14 (nI 0)).1 93 j)) := (m_rd.s82 (by omega)).tr (m_rd.r93 (by omega))
  obtain ⟨T, t1, t2, t3, t4⟩ := e_mrd (t := t) (N := N) (b := b) (N + 1) dk_FU 0 z_0 0 _ (by omega) (by have := dk_FU_ge; omega) (by omega) (hc.T h) (fun j hj => by rw [dk_sr_same, if_pos (by omega)]) (by rw [dk_sr_same, if_pos (by omega)]; rfl) (by rw [dk_sr_ne _ _ (by omega), dk_si_eq, dk_sr_same, upd_same])
  exact ⟨T, t1, hc.tr t2, t3, t4⟩
theorem i_sz.set4 {sz : Nat → Int32} (h : i_sz sz) {j v : Nat} (hj : j = 4 ∨ j = 5) (hv : v ≤ 9) : i_sz (upd sz j (nI v)) := by
  obtain ⟨a, b, c, d, x, y, e0, e1, e2, e3, e4, e5, r0, r1, r2, r3, r4, r5⟩ := h
  rcases hj with rfl | rfl
  · exact ⟨a, b, c, d, v, y, by rw [upd_ne _ _ (by omega)]; exact e0, by rw [upd_ne _ _ (by omega)]; exact e1, by rw [upd_ne _ _ (by omega)]; exact e2, by rw [upd_ne _ _ (by omega)]; exact e3, upd_same _ _ _, by rw [upd_ne _ _ (by omega)]; exact e5, r0, r1, r2, r3, hv, r5⟩
  · exact ⟨a, b, c, d, x, v, by rw [upd_ne _ _ (by omega)]; exact e0, by rw [upd_ne _ _ (by omega)]; exact e1, by rw [upd_ne _ _ (by omega)]; exact e2, by rw [upd_ne _ _ (by omega)]; exact e3, by rw [upd_ne _ _ (by omega)]; exact e4, upd_same _ _ _, r0, r1, r2, r3, r4, hv⟩
theorem or_tab : ∀ u : Fin 16, ∀ j : Fin 4, ∃ v : Fin 16, x_or (nI u.1) j.1 = nI v.1 := by decide +kernel
theorem an_tab : ∀ u : Fin 16, ∀ j : Fin 6, ∃ v : Fin 16, x_an (nI u.1) j.1 = nI v.1 := by decide +kernel
theorem f_w_ok (b : Nat → Int32) (N : Nat) : ∀ (k i : Nat) (z : Nat → Int32) (u : Nat), i_sz z → u < 16 → i_sz (f_w b N k i z (nI u)).2.1 ∧ ∃ v, v < 16 ∧ (f_w b N k i z (nI u)).2.2 = nI v := by
  intro k
  induction k with
  | zero => intro i z u hz hu; exact ⟨hz, u, hu, rfl⟩
  | succ k ih =>
    intro i z u hz hu
    rw [f_w]
    by_cases h1 : N ≤ i
    · rw [if_pos h1]; exact ⟨hz, u, hu, rfl⟩
    · rw [if_neg h1]
      by_cases h2 : b i = 32
      · rw [if_pos h2]; exact ih (i + 1) z u hz hu
      · rw [if_neg h2]
        rcases xr_it_cases (b i) with hx | ⟨j, hj, hx⟩
        · rw [if_pos hx]; exact ⟨hz, u, hu, rfl⟩
        · rw [if_neg (by rw [hx]; exact nI_m9 (by omega)), hx, nI_clamp (by omega)]
          by_cases hB : j < 4 ∧ i + 1 < N ∧ b (i + 1) = 63
          · rw [if_pos hB]
            obtain ⟨v, hv⟩ := or_tab ⟨u, hu⟩ ⟨j, hB.1⟩
            dsimp only at hv
            rw [hv]
            exact ih (i + 2) _ v.1 (hz.set (v := 5) (by omega)) v.2
          · rw [if_neg hB]
            by_cases hC : i + 1 < N ∧ nI (48 + (if j < 4 then 1 else 0)) ≤ b (i + 1) ∧ b (i + 1) ≤ 57
            · rw [if_pos hC]
              obtain ⟨v, hv⟩ := an_tab ⟨u, hu⟩ ⟨j, hj⟩
              dsimp only at hv
              obtain ⟨w, w1, w2, w3, w4⟩ := x_is_v (b := b) (N := N) (i := i + 1) (low := if j < 4 then 1 else 0) (by by_cases h4 : j < 4 <;> simp [h4]) hC
              rw [hv, w3]
              refine ih (i + 2) _ v.1 ?_ v.2
              by_cases h4 : j < 4
              · rw [if_pos h4] at w1
                exact hz.set ⟨w1, w2⟩
              · exact hz.set4 (by omega) w2
            · rw [if_neg hC]; exact ⟨hz, u, hu, rfl⟩
theorem z_0_sz : i_sz z_0 := ⟨5, 5, 5, 5, 0, 0, rfl, rfl, rfl, rfl, rfl, rfl, by omega, by omega, by omega, by omega, by omega, by omega⟩
/-- texts that are there -/
theorem x_T_of {n t : Nat} {S : dk_S} (hI : dk_I n S) (ht : t < 4) : (S.1 87 t = -1 ∧ S.1 (43 + 2 * t) 1 = -1) ∨ ∃ N, S.1 87 t = nI N ∧ N ≤ 80 ∧ x_T t N (x_b S t) S := by
  obtain ⟨h1, h2, h3⟩ := hI.2.1.2.1 t ht
  rcases h2 with h2 | ⟨N, hN, h2⟩
  · exact Or.inl ⟨h2, by rw [h1]; exact h2⟩
  · exact Or.inr ⟨N, h2, hN, ht, hN, h2, by rw [h1]; exact h2, fun j _ => rfl, fun j hj => h3 j (by omega)⟩
theorem an_rd {n : Nat} {S T V : dk_S} (hI : dk_I n S) (hc : c_rd S T) (hm : m_rd T V) : dk_I (n + 1) V := by
  obtain ⟨⟨a1, a2, a3, a4, a5⟩, hX, hS⟩ := hI
  have h0 : ∀ q, ¬ (11 ≤ q ∧ q ≤ 15) → ¬ q = 82 → ¬ q = 93 → ¬ q = 94 → V.1 q = S.1 q := fun q q1 q2 q3 q4 => by rw [hm.1 q q2 q3 q4, hc.1 q q1]
  have h82 : ∀ j, j < 14 → V.1 82 j = S.1 82 j := fun j hj => by rw [hm.2.2 j (by omega) (by omega) (by omega), hc.1 82 (by omega)]
  have h2 : V.2 = S.2 := by rw [hm.2.1, hc.2]
  refine ⟨⟨?_, fun j hj => ?_, ?_, by rw [h2]; exact a4, by rw [h2]; exact a5⟩, i_X_congr (fun q hq => h0 q (by unfold i_core at hq; omega) (by unfold i_core at hq; omega) (by unfold i_core at hq; omega) (by unfold i_core at hq; omega)) hX, i_S_up (i_S_congr h2 hS) (by omega)⟩
  · rw [h0 0 (by omega) (by omega) (by omega) (by omega), h82 0 (by omega)]; exact a1
  · rw [h0 30 (by omega) (by omega) (by omega) (by omega), h0 83 (by omega) (by omega) (by omega) (by omega)]; exact a2 j hj
  · rw [h0 0 (by omega) (by omega) (by omega) (by omega), h82 2 (by omega)]; exact a3
theorem i_A_wr {S S2 : dk_S} (h0 : S2.1 0 = S.1 0) (h3 : S2.1 30 = S.1 30) (h8 : ∀ j, j < 14 → S2.1 82 j = S.1 82 j) (h9 : S2.1 83 = S.1 83) (h2 : S2.2 = S.2) (hA : i_A S) : i_A S2 := by
  unfold i_A
  rw [h0, h3, h8 0 (by omega), h8 2 (by omega), h9, h2]
  exact hA
theorem e_w46 {k : Nat} (hk : k < 4) (kx : dk_S → Option (Int32 × dk_S)) : ∀ (m i : Nat) (S : dk_S), i ≤ 7 → 7 - i < m → fX9_walker_L46 (nI k) kx m (nI i) S = kx (dk_sr S 90 (fun j => if 7 * k + i ≤ j ∧ j < 7 * k + 7 then S.1 93 (j - 7 * k) else S.1 90 j)) := by
  intro m
  induction m with
  | zero => intro i S h1 h2; omega
  | succ m ih =>
    intro i S h1 h2
    rw [fX9_walker_L46]
    have e1 : (7 : Int32) * nI k + nI i = nI (7 * k + i) := by rw [show (7 : Int32) = nI 7 from rfl, nI_mul, nI_add]
    by_cases h : i = 7
    · subst h
      rw [if_pos (show (7 : Int32) ≤ nI 7 from by decide)]
      congr 1
      conv => lhs; rw [← dk_sr_id S 90]
      congr 1
      funext j
      rw [if_neg (by omega)]
    · rw [if_neg (show ¬ (7 : Int32) ≤ nI i from fun q => by have := (nI_leI (a := 7) (by omega) (by omega)).mp q; omega), e1, dI_in (by omega) (by omega), dk_gd_t, dI_in (by omega) (by omega), dk_gd_t, dk_lt_eq, nI_clamp (by omega), nI_clamp (by omega), nI_1, ih (i + 1) _ (by omega) (by omega), dk_si_eq, dk_sr_sr, dk_sr_same, dk_sr_ne _ _ (by omega)]
      congr 2
      funext j
      by_cases hj : j = 7 * k + i
      · subst hj
        rw [if_neg (by omega), if_pos (by omega), upd_same, show 7 * k + i - 7 * k = i by omega]
      · rw [upd_ne _ _ hj]
        by_cases hj2 : 7 * k + i ≤ j ∧ j < 7 * k + 7
        · rw [if_pos hj2, if_pos (by omega)]
        · rw [if_neg hj2, if_neg (by omega)]
theorem pr_walker (a1 : Int32) (a2 : Int32) {n : Nat} {S : dk_S} (hn : n < 512) (hI : dk_I n S) : ∃ (r : Int32) (S1 S2 : dk_S), fX8_walker a1 a2 S = some (r, S1) ∧ fX9_walker a1 a2 S1 = some (r, S2) ∧ dk_I (n + 1) S2 := by
  unfold fX8_walker fX9_walker
  simp only [q_noWalker, q_noText, q_isPlace, q_isText, some_bind']
  by_cases h1 : 0 ≤ a1 ∧ a1 ≤ 3
  · by_cases h2 : 0 ≤ a2 ∧ a2 ≤ 3
    · simp only [if_pos h1, if_pos h2, if_true, i_10, if_false]
      obtain ⟨k, hk, rfl⟩ := b_4 h1
      obtain ⟨t, ht, rfl⟩ := b_4 h2
      rw [dI_in ht (by omega), dI_in hk (by omega)]
      simp only [dk_gd_t, nI_clamp (show t < 2 ^ 31 by omega), nI_clamp (show k < 2 ^ 31 by omega), q_miss6, some_bind']
      rcases x_T_of hI ht with ⟨g1, g2⟩ | ⟨N, g1, g2, hT⟩
      · simp only [g2, if_pos (show (-1 : Int32) < 0 by decide), i_10, if_false]
        rw [q_found1, some_bind']
        refine ⟨_, _, _, rfl, ?_, dk_I_fn (f := 1) (by omega) hI⟩
        rw [q_fnd_ne _ _ (by omega) (by omega), g1, if_neg (by decide), q_notes1, some_bind']
      · simp only [hT.2.2.2.1, if_neg (nI_pos (show N < 2 ^ 31 by omega)), if_true]
        obtain ⟨T, t1, t2, t3, t4⟩ := q_readDuck hT
        obtain ⟨hFs, u, hu, hFu⟩ := f_w_ok (x_b S t) N (N + 1) 0 z_0 0 z_0_sz (by omega)
        rw [nI_0] at hFs hFu
        have hM : ∀ U : dk_S, x_T t N (x_b S t) U → _ := fun U hU => q_walkerFault hU
        generalize f_w (x_b S t) N (N + 1) 0 z_0 0 = F at t1 t3 t4 hFs hFu hM
        rw [t1, some_bind']
        dsimp only
        by_cases h9 : F.1 = -9
        · rw [if_pos h9, q_take _ _ _ (by omega), some_bind', dk_lt_eq]
          generalize hU : dk_si (dk_sr (dk_sr T (51 + 2 * k + 1) _) (51 + 2 * k) _) (51 + 2 * k) 2 1 = U
          have u51 : U.1 (51 + 2 * k) = upd (upd (S.1 (51 + 2 * k)) 1 F.2.2) 2 1 := by
            rw [← hU, dk_si_eq, dk_sr_same, dk_sr_same, t2.1 _ (by omega), t4]
          have u52 : ∀ j, j < 6 → U.1 (52 + 2 * k) j = F.2.1 j := fun j hj => by
            rw [← hU, dk_si_eq, dk_sr_ne _ _ (by omega), dk_sr_ne _ _ (by omega), show 52 + 2 * k = 51 + 2 * k + 1 by omega, dk_sr_same, if_pos hj]
            exact t3 j hj
          have uo : ∀ q, ¬ (11 ≤ q ∧ q ≤ 15) → ¬ q = 51 + 2 * k → ¬ q = 52 + 2 * k → U.1 q = S.1 q := fun q q1 q2 q3 => by
            rw [← hU, dk_si_eq, dk_sr_ne _ _ q2, dk_sr_ne _ _ q2, dk_sr_ne _ _ (by omega), t2.1 q q1]
          have u2 : U.2 = S.2 := by rw [← hU]; exact t2.2
          clear hU
          have hUT : x_T t N (x_b S t) U := hT.cg (uo _ (by omega) (by omega) (by omega)) (uo _ (by omega) (by omega) (by omega)) (uo _ (by omega) (by omega) (by omega)) (uo _ (by omega) (by omega) (by omega))
          obtain ⟨M, m1, m2, m3, m4⟩ := hM U hUT
          have e51 : U.1 (51 + 2 * k) 1 = nI u := by rw [u51, upd_ne _ _ (by omega), upd_same, hFu]
          rw [e51, q_bc hu, some_bind']
          obtain ⟨V, hV⟩ : ∃ V, V = dk_si (dk_sr M 90 (fun j => if 7 * k + 0 ≤ j ∧ j < 7 * k + 7 then M.1 93 (j - 7 * k) else M.1 90 j)) 89 k 1 := ⟨_, rfl⟩
          have v89 : V.1 89 = upd (S.1 89) k 1 := by rw [hV, dk_si_eq, dk_sr_same, dk_sr_ne _ _ (by omega), m2.1 89 (by omega) (by omega) (by omega), uo 89 (by omega) (by omega) (by omega)]
          have v90 : ∀ j, V.1 90 j = if 7 * k + 0 ≤ j ∧ j < 7 * k + 7 then M.1 93 (j - 7 * k) else S.1 90 j := fun j => by rw [hV, dk_si_eq, dk_sr_ne _ _ (by omega), dk_sr_same, m2.1 90 (by omega) (by omega) (by omega), uo 90 (by omega) (by omega) (by omega)]
          have v93 : V.1 93 = M.1 93 := by rw [hV, dk_si_eq, dk_sr_ne _ _ (by omega), dk_sr_ne _ _ (by omega)]
          have vo : ∀ q, ¬ q = 82 → ¬ q = 89 → ¬ q = 90 → ¬ q = 93 → ¬ q = 94 → V.1 q = U.1 q := fun q q1 q2 q3 q4 q5 => by rw [hV, dk_si_eq, dk_sr_ne _ _ q2, dk_sr_ne _ _ q3, m2.1 q q1 q4 q5]
          have v82 : ∀ j, j < 14 → V.1 82 j = S.1 82 j := fun j hj => by rw [hV, dk_si_eq, dk_sr_ne _ _ (by omega), dk_sr_ne _ _ (by omega), m2.2.2 j (by omega) (by omega) (by omega), uo 82 (by omega) (by omega) (by omega)]
          have v2 : V.2 = S.2 := by rw [hV]; exact m2.2.1.trans u2
          refine ⟨_, U, V, rfl, ?_, ?_⟩
          · rw [uo 87 (by omega) (by omega) (by omega), g1, if_pos (nI_ge0 (by omega)), m1, some_bind', if_pos h9]
            have hl := e_w46 hk (fun t8 : dk_S => dk_lt (dk_si t8 89 k (vp_nar .boolean 1)) (fun S9 => (fX9_bits (S9.1 93 6) S9).bind (fun r10 => some (r10.1, r10.2)))) dk_FU 0 M (by omega) (by have := dk_FU_ge; omega)
            rw [nI_0] at hl
            rw [hl, dk_lt_eq, nar_1, ← hV, v93, m4, hFu, q_bits hu, some_bind']
          · have vS : ∀ q, ¬ (11 ≤ q ∧ q ≤ 15) → ¬ q = 82 → ¬ q = 89 → ¬ q = 90 → ¬ q = 93 → ¬ q = 94 → ¬ q = 51 + 2 * k → ¬ q = 52 + 2 * k → V.1 q = S.1 q := fun q q1 q2 q3 q4 q5 q6 q7 q8 => by rw [vo q q2 q3 q4 q5 q6, uo q q1 q7 q8]
            refine dk_I_W hI (i_A_wr (vS 0 (by omega) (by omega) (by omega) (by omega) (by omega) (by omega) (by omega) (by omega)) (vS 30 (by omega) (by omega) (by omega) (by omega) (by omega) (by omega) (by omega) (by omega)) v82 (vS 83 (by omega) (by omega) (by omega) (by omega) (by omega) (by omega) (by omega) (by omega)) v2 hI.1) ?_ (fun q hq => vS q (by omega) (by omega) (by omega) (by omega) (by omega) (by omega) (by omega) (by omega)) v2
            intro l hl
            obtain ⟨w1, w2, w3, w4, w5, w6⟩ := hI.2.1.2.2.1 l hl
            by_cases hlk : l = k
            · subst hlk
              have x51 : V.1 (51 + 2 * l) = upd (upd (S.1 (51 + 2 * l)) 1 F.2.2) 2 1 := by rw [vo _ (by omega) (by omega) (by omega) (by omega) (by omega), u51]
              have x52 : ∀ j, j < 6 → V.1 (52 + 2 * l) j = F.2.1 j := fun j hj => by rw [vo _ (by omega) (by omega) (by omega) (by omega) (by omega)]; exact u52 j hj
              refine ⟨by rw [x51, upd_same, v89, upd_same], Or.inr (by rw [v89, upd_same]), fun j hj => ?_, ?_, ⟨u, hu, by rw [x51, upd_ne _ _ (by omega), upd_same, hFu]⟩, fun _ => ?_⟩
              · rw [x52 j hj, v90, if_pos (by omega), show 7 * l + j - 7 * l = j by omega, m3 j hj]
              · rw [x51, upd_ne _ _ (by omega), upd_same, v90, if_pos (by omega), show 7 * l + 6 - 7 * l = 6 by omega, m4]
              · obtain ⟨a, b, c, d, x, y, e0, e1, e2, e3, e4, e5, rr⟩ := hFs
                exact ⟨a, b, c, d, x, y, by rw [x52 0 (by omega)]; exact e0, by rw [x52 1 (by omega)]; exact e1, by rw [x52 2 (by omega)]; exact e2, by rw [x52 3 (by omega)]; exact e3, by rw [x52 4 (by omega)]; exact e4, by rw [x52 5 (by omega)]; exact e5, rr⟩
            · have y1 := vS (51 + 2 * l) (by omega) (by omega) (by omega) (by omega) (by omega) (by omega) (by omega) (by omega)
              have y2 := vS (52 + 2 * l) (by omega) (by omega) (by omega) (by omega) (by omega) (by omega) (by omega) (by omega)
              rw [y1, y2, v89, upd_ne _ _ hlk]
              exact ⟨w1, w2, fun j hj => by rw [v90, if_neg (by omega)]; exact w3 j hj, by rw [v90, if_neg (by omega)]; exact w4, w5, w6⟩
        · rw [if_neg h9]
          obtain ⟨M, m1, m2, m3, m4⟩ := hM T (t2.T hT)
          refine ⟨_, _, M, rfl, ?_, an_rd hI t2 m2⟩
          rw [t2.1 87 (by omega), g1, if_pos (nI_ge0 (by omega)), m1, some_bind', if_neg h9]
    · simp only [if_pos h1, if_neg h2, i_10, if_false, if_true]
      exact ⟨_, _, _, rfl, rfl, dk_I_up hI⟩
  · simp only [if_neg h1, i_10, if_false, if_true]
    exact ⟨_, _, _, rfl, rfl, dk_I_up hI⟩
