/-! a walk is copied, in the model -/
theorem e_copyWalk {a b : Nat} (ha : a < 4) (hb : b < 4) (hab : ¬ a = b) : ∀ (m i : Nat) (S : dk_S), i ≤ 114 → 114 - i < m → fX9_copyWalk_L2 (nI a) (nI b) m (nI i) S = some (dk_sr S 98 (fun j => if 114 * b + i ≤ j ∧ j < 114 * b + 114 then S.1 98 (114 * a + (j - 114 * b)) else S.1 98 j)) := by
  intro m
  induction m with
  | zero => intro i S h1 h2; omega
  | succ m ih =>
    intro i S h1 h2
    rw [fX9_copyWalk_L2]
    by_cases hi : i = 114
    · subst hi
      rw [if_pos (show (114 : Int32) ≤ nI 114 from by decide)]
      congr 1
      conv => lhs; rw [← dk_sr_id S 98]
      congr 1
      funext j
      rw [if_neg (by omega)]
    · rw [if_neg (show ¬ (114 : Int32) ≤ nI i from fun g => by have := (nI_leI (a := 114) (by omega) (by omega)).mp g; omega)]
      have e1 : (114 : Int32) * nI a + nI i = nI (114 * a + i) := by rw [show (114 : Int32) = nI 114 from rfl, nI_mul, nI_add]
      have e2 : (114 : Int32) * nI b + nI i = nI (114 * b + i) := by rw [show (114 : Int32) = nI 114 from rfl, nI_mul, nI_add]
      rw [e1, e2, dI_in (by omega) (by omega), dk_gd_t, dI_in (by omega) (by omega), dk_gd_t, dk_lt_eq, nI_clamp (by omega), nI_clamp (by omega), nI_1, ih _ _ (by omega) (by omega), dk_si_eq, dk_sr_sr, dk_sr_same]
      congr 2
      funext j
      simp only [upd_at]
      by_cases hj : j = 114 * b + i
      · subst hj
        rw [if_neg (show ¬ (114 * b + (i + 1) ≤ 114 * b + i ∧ 114 * b + i < 114 * b + 114) by omega), if_pos rfl, if_pos (show 114 * b + i ≤ 114 * b + i ∧ 114 * b + i < 114 * b + 114 by omega), show 114 * b + i - 114 * b = i by omega]
      · by_cases hc : 114 * b + (i + 1) ≤ j ∧ j < 114 * b + 114
        · rw [if_pos hc, if_neg (show ¬ 114 * a + (j - 114 * b) = 114 * b + i by omega), if_pos (show 114 * b + i ≤ j ∧ j < 114 * b + 114 by omega)]
        · rw [if_neg hc, if_neg hj, if_neg (show ¬ (114 * b + i ≤ j ∧ j < 114 * b + 114) by omega)]
theorem q_copyWalk {a b : Nat} (ha : a < 4) (hb : b < 4) (hab : ¬ a = b) (S : dk_S) : fX9_copyWalk (nI a) (nI b) S = some (dk_sr S 98 (fun j => if 114 * b ≤ j ∧ j < 114 * b + 114 then S.1 98 (114 * a + (j - 114 * b)) else S.1 98 j)) :=
  e_copyWalk ha hb hab dk_FU 0 S (by omega) (by have := dk_FU_ge; omega)
theorem cp100 : dk_cpok 0 0 100 100 100 = true := by decide
theorem q_take3 (k0 k1 : Nat) (S : dk_S) (h : ¬ k1 = k0 + 1) : fX3_take k0 k1 S = some (dk_sr (dk_sr S (k0 + 1) (fun j => if j < 100 then S.1 (k1 + 1) j else S.1 (k0 + 1) j)) k0 (upd (S.1 k0) 1 (S.1 k1 1))) := by
  unfold fX3_take
  rw [cp100, dk_gd_t, dk_lt_eq, dk_lt_eq, dk_si_eq, dk_sr_ne _ _ (by omega : ¬ k0 = k0 + 1), dk_sr_ne _ _ h]
  congr 3
  funext j
  unfold va_cpy
  show (if 0 ≤ j ∧ j < 0 + 100 then _ else _) = _
  by_cases hj : j < 100
  · rw [if_pos (by omega), if_pos hj, show Int32.toNatClampNeg 0 + (j - Int32.toNatClampNeg 0) = j from (by show 0 + (j - 0) = j; omega)]
  · rw [if_neg (by omega), if_neg hj]
theorem q_take0 (k0 k1 : Nat) (S : dk_S) (h : k0 + 4 < k1 ∨ k1 + 4 < k0) (h2 : S.1 k1 2 = 0 ∨ S.1 k1 2 = 1) : ∃ T, fX0_take k0 k1 S = some T ∧ T.2 = S.2 ∧ (∀ q, ¬ (k0 ≤ q ∧ q ≤ k0 + 4) → T.1 q = S.1 q) ∧ (∀ j, j < 6 → T.1 (k0 + 2) j = S.1 (k1 + 2) j) ∧ T.1 (k0 + 3) 1 = S.1 (k1 + 3) 1 ∧ (∀ j, j < 100 → T.1 (k0 + 4) j = S.1 (k1 + 4) j) ∧ (∀ j, 2 ≤ j → j ≤ 9 → T.1 k0 j = S.1 k1 j) := by
  unfold fX0_take
  rw [q_take (k0 + 1) (k1 + 1) S (by omega), some_bind', q_take3 (k0 + 3) (k1 + 3) _ (by omega), some_bind']
  generalize hU : dk_sr (dk_sr (dk_sr (dk_sr S (k0 + 1 + 1) (fun j => if j < 6 then S.1 (k1 + 1 + 1) j else S.1 (k0 + 1 + 1) j)) (k0 + 1) (upd (S.1 (k0 + 1)) 1 (S.1 (k1 + 1) 1))) (k0 + 3 + 1) _) (k0 + 3) _ = U
  have u1 : ∀ q, ¬ (k0 + 1 ≤ q ∧ q ≤ k0 + 4) → U.1 q = S.1 q := fun q hq => by
    rw [← hU, dk_sr_ne _ _ (by omega), dk_sr_ne _ _ (by omega), dk_sr_ne _ _ (by omega), dk_sr_ne _ _ (by omega)]
  have u2 : ∀ j, j < 6 → U.1 (k0 + 2) j = S.1 (k1 + 2) j := fun j hj => by
    rw [← hU, dk_sr_ne _ _ (by omega), dk_sr_ne _ _ (by omega), dk_sr_ne _ _ (by omega), show k0 + 2 = k0 + 1 + 1 from rfl, dk_sr_same, if_pos hj]
  have u3 : U.1 (k0 + 3) 1 = S.1 (k1 + 3) 1 := by
    rw [← hU, dk_sr_same, upd_same, dk_sr_ne _ _ (by omega), dk_sr_ne _ _ (by omega)]
  have u4 : ∀ j, j < 100 → U.1 (k0 + 4) j = S.1 (k1 + 4) j := fun j hj => by
    rw [← hU, dk_sr_ne _ _ (by omega), show k0 + 4 = k0 + 3 + 1 from rfl, dk_sr_same, if_pos hj, dk_sr_ne _ _ (by omega), dk_sr_ne _ _ (by omega)]
  have u5 : U.2 = S.2 := by rw [← hU]; rfl
  clear hU
  have hk : U.1 k1 = S.1 k1 := u1 k1 (by omega)
  have hne : ¬ k1 = k0 := by omega
  rw [hk, decide_eq_true h2, dk_gd_t]
  simp only [dk_lt_eq, dk_si_eq, dk_sr_sr, dk_sr_same, dk_sr_ne _ _ hne, hk]
  refine ⟨_, rfl, u5, fun q hq => ?_, fun j hj => ?_, ?_, fun j hj => ?_, fun j hj1 hj2 => ?_⟩
  · rw [dk_sr_ne _ _ (by omega)]; exact u1 q (by omega)
  · rw [dk_sr_ne _ _ (by omega)]; exact u2 j hj
  · rw [dk_sr_ne _ _ (by omega)]; exact u3
  · rw [dk_sr_ne _ _ (by omega)]; exact u4 j hj
  · rw [dk_sr_same]
    have : j = 2 ∨ j = 3 ∨ j = 4 ∨ j = 5 ∨ j = 6 ∨ j = 7 ∨ j = 8 ∨ j = 9 := by omega
    rcases this with rfl | rfl | rfl | rfl | rfl | rfl | rfl | rfl <;> simp [upd]
/-- a walk that is the same as another's is such a walk -/
theorem i_C_copy {S V : dk_S} {c f c2 f2 : Nat} (h : i_C S c f) (h1 : S.1 97 f = 1) (g1 : V.1 97 f2 = 1) (g2 : ∀ j, j < 114 → V.1 98 (114 * f2 + j) = S.1 98 (114 * f + j)) (g3 : ∀ j, j < 6 → V.1 (c2 + 2) j = S.1 (c + 2) j) (g4 : V.1 (c2 + 3) 1 = S.1 (c + 3) 1) (g5 : ∀ j, j < 100 → V.1 (c2 + 4) j = S.1 (c + 4) j) (g6 : ∀ j, 2 ≤ j → j ≤ 9 → V.1 c2 j = S.1 c j) : i_C V c2 f2 := by
  obtain ⟨c1, -, c3⟩ := h
  obtain ⟨d1, d2, d3, d4, d5, d6, d7, d8, d9⟩ := c3 h1
  refine ⟨by rw [g6 2 (by omega) (by omega), c1, h1, g1], Or.inr g1, fun _ => ⟨fun i hi => ?_, fun i hi => ?_, ?_, fun i hi => ?_, ?_, ?_, ?_, ?_, ?_⟩⟩
  · rw [g3 i hi, g2 i (by omega)]; exact d1 i hi
  · rw [g6 (3 + i) (by omega) (by omega), g2 (6 + i) (by omega)]; exact d2 i hi
  · rw [g4, g2 13 (by omega)]; exact d3
  · rw [g5 i hi, g2 (14 + i) (by omega)]; exact d4 i hi
  · obtain ⟨a, b, c, d, x, y, e0, e1, e2, e3, e4, e5, r⟩ := d5
    exact ⟨a, b, c, d, x, y, by rw [g3 0 (by omega)]; exact e0, by rw [g3 1 (by omega)]; exact e1, by rw [g3 2 (by omega)]; exact e2, by rw [g3 3 (by omega)]; exact e3, by rw [g3 4 (by omega)]; exact e4, by rw [g3 5 (by omega)]; exact e5, r⟩
  · rw [g6 3 (by omega) (by omega)]; exact d6
  · rw [g6 5 (by omega) (by omega)]; exact d7
  · rw [g6 6 (by omega) (by omega)]; exact d8
  · rw [g6 7 (by omega) (by omega)]; exact d9
/-- a walk whose cells have not changed -/
theorem i_C_same {S V : dk_S} {c f : Nat} (h : i_C S c f) (g1 : V.1 97 f = S.1 97 f) (g2 : ∀ j, j < 114 → V.1 98 (114 * f + j) = S.1 98 (114 * f + j)) (g3 : V.1 c = S.1 c) (g4 : V.1 (c + 2) = S.1 (c + 2)) (g5 : V.1 (c + 3) = S.1 (c + 3)) (g6 : V.1 (c + 4) = S.1 (c + 4)) : i_C V c f := by
  obtain ⟨c1, c2, c3⟩ := h
  refine ⟨by rw [g3, g1]; exact c1, by rw [g1]; exact c2, fun h1 => ?_⟩
  rw [g1] at h1
  obtain ⟨d1, d2, d3, d4, d5, d6, d7, d8, d9⟩ := c3 h1
  rw [g3, g4, g5, g6]
  exact ⟨fun i hi => by rw [g2 i (by omega)]; exact d1 i hi, fun i hi => by rw [g2 (6 + i) (by omega)]; exact d2 i hi, by rw [g2 13 (by omega)]; exact d3, fun i hi => by rw [g2 (14 + i) (by omega)]; exact d4 i hi, d5, d6, d7, d8, d9⟩
theorem nar_1 : vp_nar .boolean 1 = 1 := by decide
theorem pr_keep (a1 : Int32) {n : Nat} {S : dk_S} (hn : n < 512) (hI : dk_I n S) : ∃ (r : Int32) (S1 S2 : dk_S), fX8_keep a1 S = some (r, S1) ∧ fX9_keep a1 S1 = some (r, S2) ∧ dk_I (n + 1) S2 := by
  unfold fX8_keep fX9_keep
  simp only [q_isOutside, q_in, some_bind']
  have hK := hI.2.1.2.2.2.2
  obtain ⟨c1, c2, c3⟩ := hK.1
  by_cases h : 0 ≤ a1 ∧ a1 ≤ 2
  · simp only [if_pos h, if_true, i_10, if_false]
    rw [c1]
    rcases c2 with c2 | c2
    · refine ⟨-4, S, S, by rw [c2, if_pos rfl], by rw [c2, if_pos rfl], dk_I_up hI⟩
    · obtain ⟨k, hk, rfl⟩ := dI_of (n := 2) (by omega) h.1 h.2
      obtain ⟨T, t1, t2, t3, t4, t5, t6, t7⟩ := q_take0 (67 + 5 * k) 5 S (by omega) (by rw [c1, c2]; exact Or.inr rfl)
      rw [c2, if_neg (show ¬ (1 : Int32) = 0 by decide), dI_in (by omega) (by omega), dk_gd_t, nI_clamp (by omega), t1, some_bind']
      have e1 : (1 : Int32) + nI k = nI (1 + k) := by rw [show (1 : Int32) = nI 1 from rfl, nI_add]
      have h97 : T.1 97 0 = 1 := by rw [t3 97 (by omega)]; exact c2
      have hcw := q_copyWalk (a := 0) (b := 1 + k) (by omega) (by omega) (by omega) T
      rw [nI_0] at hcw
      generalize hV : dk_si (dk_sr T 98 (fun j => if 114 * (1 + k) ≤ j ∧ j < 114 * (1 + k) + 114 then T.1 98 (114 * 0 + (j - 114 * (1 + k))) else T.1 98 j)) 97 (1 + k) 1 = V
      have v97 : V.1 97 = upd (S.1 97) (1 + k) 1 := by rw [← hV, dk_si_eq, dk_sr_same, dk_sr_ne _ _ (by omega), t3 97 (by omega)]
      have v98 : ∀ j, V.1 98 j = if 114 * (1 + k) ≤ j ∧ j < 114 * (1 + k) + 114 then S.1 98 (114 * 0 + (j - 114 * (1 + k))) else S.1 98 j := fun j => by rw [← hV, dk_si_eq, dk_sr_ne _ _ (by omega), dk_sr_same, t3 98 (by omega)]
      have vT : ∀ q, ¬ q = 97 → ¬ q = 98 → V.1 q = T.1 q := fun q h1 h2 => by rw [← hV, dk_si_eq, dk_sr_ne _ _ h1, dk_sr_ne _ _ h2]
      have vo : ∀ q, ¬ q = 97 → ¬ q = 98 → ¬ (67 + 5 * k ≤ q ∧ q ≤ 67 + 5 * k + 4) → V.1 q = S.1 q := fun q h1 h2 h3 => by rw [vT q h1 h2, t3 q h3]
      have v2 : V.2 = S.2 := by rw [← hV]; exact t2
      have hVK : i_K V := by
        refine ⟨i_C_same hK.1 (by rw [v97, upd_ne _ _ (by omega)]) (fun j hj => by rw [v98, if_neg (by omega)]) (vo 5 (by omega) (by omega) (by omega)) (vo 7 (by omega) (by omega) (by omega)) (vo 8 (by omega) (by omega) (by omega)) (vo 9 (by omega) (by omega) (by omega)), fun l hl => ?_⟩
        by_cases hlk : l = k
        · subst hlk
          refine i_C_copy hK.1 c2 (by rw [v97, Nat.add_comm l 1, upd_same]) (fun j hj => ?_) (fun j hj => by rw [vT _ (by omega) (by omega)]; exact t4 j hj) (by rw [vT _ (by omega) (by omega)]; exact t5) (fun j hj => by rw [vT _ (by omega) (by omega)]; exact t6 j hj) (fun j h1 h2 => by rw [vT _ (by omega) (by omega)]; exact t7 j h1 h2)
          rw [v98, if_pos (by omega), show 114 * (l + 1) + j - 114 * (1 + l) = j by omega]
        · exact i_C_same (hK.2 l hl) (by rw [v97, upd_ne _ _ (by omega)]) (fun j hj => by rw [v98, if_neg (by omega)]) (vo _ (by omega) (by omega) (by omega)) (vo _ (by omega) (by omega) (by omega)) (vo _ (by omega) (by omega) (by omega)) (vo _ (by omega) (by omega) (by omega))
      refine ⟨T.1 5 6, T, V, rfl, ?_, dk_I_K hI (i_A_congr (S := S) (vo 0 (by omega) (by omega) (by omega)) (vo 30 (by omega) (by omega) (by omega)) (vo 82 (by omega) (by omega) (by omega)) (vo 83 (by omega) (by omega) (by omega)) v2 hI.1) hVK (fun q hq => vo q (by omega) (by omega) (by omega)) v2⟩
      rw [h97, if_neg (show ¬ (1 : Int32) = 0 by decide), e1, hcw, some_bind', dI_in (by omega) (by omega), dk_gd_t, dk_lt_eq, nI_clamp (by omega), nar_1, hV, v98, if_neg (by omega), t3 5 (by omega)]
      have g0 : S.1 5 6 = S.1 98 9 := (c3 c2).2.1 3 (by omega)
      rw [g0]
  · simp only [if_neg h, i_10, if_false, if_true]
    exact ⟨_, _, _, rfl, rfl, dk_I_up hI⟩
