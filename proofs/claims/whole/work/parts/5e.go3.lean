/-! go -/
theorem c_row_self (c : Nat → Int32) : c_row c (c 4) (c 5) (c 6) (c 7) (c 8) (c 9) = c := by
  funext j
  unfold c_row
  by_cases h4 : j = 4
  · rw [if_pos h4, h4]
  by_cases h5 : j = 5
  · rw [if_neg h4, if_pos h5, h5]
  by_cases h6 : j = 6
  · rw [if_neg h4, if_neg h5, if_pos h6, h6]
  by_cases h7 : j = 7
  · rw [if_neg h4, if_neg h5, if_neg h6, if_pos h7, h7]
  by_cases h8 : j = 8
  · rw [if_neg h4, if_neg h5, if_neg h6, if_neg h7, if_pos h8, h8]
  by_cases h9 : j = 9
  · rw [if_neg h4, if_neg h5, if_neg h6, if_neg h7, if_neg h8, if_pos h9, h9]
  rw [if_neg h4, if_neg h5, if_neg h6, if_neg h7, if_neg h8, if_neg h9]
theorem g_M_self {S : dk_S} {c : Nat → Int32} {p f i lo we : Int32} {st : Nat} (h : S.1 82 = m_row c p f i lo we) (h2 : S.1 98 9 = nI st) : g_M S c p f i lo we st = S := by
  unfold g_M
  rw [← h, dk_sr_id]
  have : upd (S.1 98) 9 (nI st) = S.1 98 := by
    funext j
    rw [upd_at]
    by_cases hj : j = 9
    · rw [if_pos hj, hj, h2]
    · rw [if_neg hj]
  rw [this, dk_sr_id]
theorem q_store (S : dk_S) : ∃ T, fX9_storeWalk S = some T ∧ T.2 = S.2 ∧ (∀ q, ¬ q = 98 → T.1 q = S.1 q) ∧ T.1 98 7 = S.1 82 25 ∧ T.1 98 8 = S.1 82 26 ∧ T.1 98 10 = S.1 82 27 ∧ T.1 98 11 = S.1 82 28 ∧ T.1 98 12 = S.1 82 29 ∧ (∀ j, j < 7 ∨ j = 9 ∨ 12 < j → T.1 98 j = S.1 98 j) := by
  unfold fX9_storeWalk
  simp (disch := omega) only [dk_lt_eq, dk_si_eq, dk_sr_sr, dk_sr_same, dk_sr_ne]
  refine ⟨_, rfl, rfl, fun q h1 => ?_, ?_, ?_, ?_, ?_, ?_, fun j hj => ?_⟩
  · rw [dk_sr_ne _ _ h1]
  all_goals
    simp (disch := omega) only [dk_sr_same, upd_ne, upd_same]
/-- a walk that has gone on -/
theorem i_C_go {S V : dk_S} {p f i lo we : Int32} {st : Nat} (h : i_C S 5 0) (h1 : S.1 97 0 = 1) (g97 : V.1 97 0 = 1) (g7 : V.1 7 = S.1 7) (g8 : V.1 8 = S.1 8) (g9 : V.1 9 = S.1 9) (g5 : V.1 5 = c_row (S.1 5) p f (nI st) i lo we) (hst : st ≤ 10000) (hf : f = 0 ∨ f = 1) (hi : i = 0 ∨ i = 1 ∨ i = 2) (w7 : V.1 98 7 = p) (w8 : V.1 98 8 = f) (w9 : V.1 98 9 = nI st) (w10 : V.1 98 10 = i) (w11 : V.1 98 11 = lo) (w12 : V.1 98 12 = we) (wo : ∀ j, j < 7 ∨ 12 < j → V.1 98 j = S.1 98 j) : i_C V 5 0 := by
  obtain ⟨c1, c2, c3⟩ := h
  obtain ⟨d1, d2, d3, d4, d5, d6, d7, d8, d9⟩ := c3 h1
  refine ⟨by rw [g5, c_row_2, c1, h1, g97], Or.inr g97, fun _ => ⟨fun j hj => ?_, fun j hj => ?_, ?_, fun j hj => ?_, ?_, ?_, ?_, ?_, ?_⟩⟩
  · show V.1 7 j = _
    rw [g7, wo _ (by omega)]; exact d1 j hj
  · have : j = 0 ∨ j = 1 ∨ j = 2 ∨ j = 3 ∨ j = 4 ∨ j = 5 ∨ j = 6 := by omega
    rcases this with rfl | rfl | rfl | rfl | rfl | rfl | rfl
    · rw [g5]; show S.1 5 3 = V.1 98 6; rw [wo 6 (by omega)]; exact d2 0 (by omega)
    · rw [g5]; exact w7.symm
    · rw [g5]; exact w8.symm
    · rw [g5]; exact w9.symm
    · rw [g5]; exact w10.symm
    · rw [g5]; exact w11.symm
    · rw [g5]; exact w12.symm
  · show V.1 8 1 = _
    rw [g8, wo _ (by omega)]; exact d3
  · show V.1 9 j = _
    rw [g9, wo _ (by omega)]; exact d4 j hj
  · show i_sz (V.1 7)
    rw [g7]; exact d5
  · rw [g5, c_row_3]; exact d6
  · rw [g5, c_row_5]; exact hf
  · rw [g5, c_row_6]; exact ⟨st, hst, rfl⟩
  · rw [g5, c_row_7]; exact hi
theorem i_K_go {S V : dk_S} (h : i_K S) (h0 : i_C V 5 0) (g97 : ∀ f, 1 ≤ f → V.1 97 f = S.1 97 f) (g98 : ∀ j, 114 ≤ j → V.1 98 j = S.1 98 j) (go : ∀ q, 67 ≤ q → q ≤ 81 → V.1 q = S.1 q) : i_K V :=
  ⟨h0, fun k hk => i_C_same (h.2 k hk) (g97 _ (by omega)) (fun j hj => g98 _ (by omega)) (go _ (by omega) (by omega)) (go _ (by omega) (by omega)) (go _ (by omega) (by omega)) (go _ (by omega) (by omega))⟩
theorem nle10k {x : Nat} (h : x < 2 ^ 30) : (nI x ≤ (10000 : Int32)) ↔ x ≤ 10000 := nI_leI (b := 10000) (by omega) (by omega)
/-- the walk that is, as numbers -/
theorem w_now {S : dk_S} (h : i_C S 5 0) (h1 : S.1 97 0 = 1) : ∃ st, st ≤ 10000 ∧ S.1 5 6 = nI st ∧ S.1 98 9 = nI st ∧ S.1 5 = c_row (S.1 5) (S.1 98 7) (S.1 98 8) (nI st) (S.1 98 10) (S.1 98 11) (S.1 98 12) ∧ (S.1 98 8 = 0 ∨ S.1 98 8 = 1) ∧ (S.1 98 10 = 0 ∨ S.1 98 10 = 1 ∨ S.1 98 10 = 2) ∧ a_ok (S.1 98) ∧ c_P (S.1 98) (S.1 98 6) (S.1 98 13) = c_P (S.1 7) (S.1 5 3) (S.1 8 1) ∧ S.1 98 3 = S.1 7 3 ∧ (∀ j, j < 100 → S.1 98 (14 + j) = S.1 9 j) := by
  obtain ⟨c1, c2, c3⟩ := h
  obtain ⟨d1, d2, d3, d4, d5, d6, d7, ⟨st, hst, d8⟩, d9⟩ := c3 h1
  have b1 : ∀ j, j < 6 → S.1 98 j = S.1 7 j := fun j hj => by have := d1 j hj; rw [this, show 114 * 0 + j = j by omega]
  have b3 : S.1 5 3 = S.1 98 6 := d2 0 (by omega)
  have b4 : S.1 5 4 = S.1 98 7 := d2 1 (by omega)
  have b5 : S.1 5 5 = S.1 98 8 := d2 2 (by omega)
  have b6 : S.1 5 6 = S.1 98 9 := d2 3 (by omega)
  have b7 : S.1 5 7 = S.1 98 10 := d2 4 (by omega)
  have b8 : S.1 5 8 = S.1 98 11 := d2 5 (by omega)
  have b9 : S.1 5 9 = S.1 98 12 := d2 6 (by omega)
  have b13 : S.1 8 1 = S.1 98 13 := d3
  have hok := a_ok_sz d5
  refine ⟨st, hst, d8, by rw [← b6]; exact d8, ?_, by rw [← b5]; exact d7, by rw [← b7]; exact d9, ?_, ?_, b1 3 (by omega), fun j hj => ?_⟩
  · rw [← b4, ← b5, ← b7, ← b8, ← b9, ← d8]; exact (c_row_self _).symm
  · unfold a_ok at hok ⊢
    rw [b1 0 (by omega), b1 1 (by omega), b1 2 (by omega)]; exact hok
  · rw [c_P_c b1, ← b3, ← b13]
  · have := d4 j hj
    rw [show 114 * 0 + (14 + j) = 14 + j by omega] at this
    exact this.symm
theorem i_A_go {S S2 : dk_S} (h0 : S2.1 0 = S.1 0) (h3 : S2.1 30 = S.1 30) (h8 : ∀ j, j < 20 → S2.1 82 j = S.1 82 j) (h9 : S2.1 83 = S.1 83) (h2 : S2.2 = S.2) (hA : i_A S) : i_A S2 := by
  unfold i_A
  rw [h0, h3, h8 0 (by omega), h8 2 (by omega), h9, h2]
  exact hA
theorem pr_go (a1 : Int32) {n : Nat} {S : dk_S} (hn : n < 512) (hI : dk_I n S) : ∃ (r : Int32) (S1 S2 : dk_S), fX8_go a1 S = some (r, S1) ∧ fX9_go a1 S1 = some (r, S2) ∧ dk_I (n + 1) S2 := by
  unfold fX8_go fX9_go
  simp only [q_isOutside, q_in, some_bind']
  have hK := hI.2.1.2.2.2.2
  obtain ⟨c1, c2, -⟩ := hK.1
  by_cases h : 0 ≤ a1 ∧ a1 ≤ 400
  · simp only [if_pos h, if_true, i_10, if_false]
    rw [c1]
    rcases c2 with c2 | c2
    · refine ⟨-4, S, S, by rw [c2, if_pos rfl], by rw [c2, if_pos rfl], dk_I_up hI⟩
    · obtain ⟨k, hk, rfl⟩ := dI_of (n := 400) (by omega) h.1 h.2
      obtain ⟨st, hst, e6, e9, er, hf, hi, hok, hP, h3, hb⟩ := w_now hK.1 c2
      rw [c2, if_neg (show ¬ (1 : Int32) = 0 by decide), e6, nI_add]
      by_cases h10 : st + k ≤ 10000
      · rw [if_pos ((nle10k (by omega)).mpr h10)]
        have hz := w_go_ok (c_P (S.1 7) (S.1 5 3) (S.1 8 1)) (S.1 9) (S.1 7 3) k 0 st (S.1 98 7) (S.1 98 8) (S.1 98 10) (S.1 98 11) (S.1 98 12) hf hi
        have hc := e_cgo (k0 := 5) (c := S.1 5) dk_FU k 0 st _ _ _ _ _ S (by have := dk_FU_ge; omega) (by omega) (by omega) er
        rw [show (5 + 2 : Nat) = 7 from rfl, show (5 + 3 : Nat) = 8 from rfl, show (5 + 4 : Nat) = 9 from rfl, Nat.zero_add] at hc
        generalize hw : w_go (c_P (S.1 7) (S.1 5 3) (S.1 8 1)) (S.1 9) (S.1 7 3) k 0 st (S.1 98 7) (S.1 98 8) (S.1 98 10) (S.1 98 11) (S.1 98 12) = z at hz hc
        obtain ⟨T, hT⟩ : ∃ T, T = dk_sr S 5 (c_row (S.1 5) z.2.2.1 z.2.2.2.1 (nI z.2.1) z.2.2.2.2.1 z.2.2.2.2.2.1 z.2.2.2.2.2.2) := ⟨_, rfl⟩
        rw [← hT] at hc
        have t5 : T.1 5 = c_row (S.1 5) z.2.2.1 z.2.2.2.1 (nI z.2.1) z.2.2.2.2.1 z.2.2.2.2.2.1 z.2.2.2.2.2.2 := by rw [hT, dk_sr_same]
        have to : ∀ q, ¬ q = 5 → T.1 q = S.1 q := fun q h1 => by rw [hT, dk_sr_ne _ _ h1]
        have t2 : T.2 = S.2 := by rw [hT]; rfl
        clear hT
        have hc' : fX0_strideOn 5 (nI k) S = some (nI z.1, T) := hc
        rw [hc', some_bind']
        obtain ⟨L, l1, l2, l3, l4, l5, l6⟩ := q_layWalk T
        rw [to 98 (by omega)] at l5 l6
        have l98 : L.1 98 = S.1 98 := by rw [l3 98 (by omega) (by omega) (by omega), to 98 (by omega)]
        have hm := e_mgo2 (S := L) (sz := S.1 98) (rb := S.1 98 13) (sl := S.1 98 6) (c := L.1 82) (bs := S.1 9) l5 hok (fun _ _ => rfl) (fun j hj => by rw [l98]; exact hb j hj) dk_FU k 0 st (S.1 98 7) (S.1 98 8) (S.1 98 10) (S.1 98 11) (S.1 98 12) (by have := dk_FU_ge; omega) (by omega) (by omega) hf
        rw [g_M_self l6 (by rw [l98]; exact e9), hP, h3, hw, Nat.zero_add] at hm
        obtain ⟨V, v1, v2, v3, v4, v5, v6, v7, v8, v9⟩ := q_store (g_M L (L.1 82) z.2.2.1 z.2.2.2.1 z.2.2.2.2.1 z.2.2.2.2.2.1 z.2.2.2.2.2.2 z.2.1)
        rw [v1, some_bind'] at hm
        rw [g_M_82] at v4 v5 v6 v7 v8
        rw [g_M_98, l98] at v9
        have vo : ∀ q, ¬ q = 82 → ¬ q = 95 → ¬ q = 96 → ¬ q = 98 → V.1 q = T.1 q := fun q q1 q2 q3 q4 => by rw [v3 q q4, g_M_o _ _ _ _ _ _ _ _ q1 q4, l3 q q1 q2 q3]
        have vS : ∀ q, ¬ q = 82 → ¬ q = 95 → ¬ q = 96 → ¬ q = 98 → ¬ q = 5 → V.1 q = S.1 q := fun q q1 q2 q3 q4 q5 => by rw [vo q q1 q2 q3 q4, to q q5]
        have vv2 : V.2 = S.2 := by rw [v2, show (g_M L (L.1 82) z.2.2.1 z.2.2.2.1 z.2.2.2.2.1 z.2.2.2.2.2.1 z.2.2.2.2.2.2 z.2.1).2 = L.2 from rfl, l2, t2]
        have hVK : i_K V := by
          refine i_K_go hK (i_C_go (st := z.2.1) hK.1 c2 (by rw [vS 97 (by omega) (by omega) (by omega) (by omega) (by omega)]; exact c2) (vS 7 (by omega) (by omega) (by omega) (by omega) (by omega)) (vS 8 (by omega) (by omega) (by omega) (by omega) (by omega)) (vS 9 (by omega) (by omega) (by omega) (by omega) (by omega)) (by rw [vo 5 (by omega) (by omega) (by omega) (by omega)]; exact t5) (by omega) hz.2.2.2.1 hz.2.2.2.2 v4 v5 (by rw [v9 9 (by omega), upd_same]) v6 v7 v8 (fun j hj => by rw [v9 j (by omega), upd_ne _ _ (by omega)])) (fun f hf => by rw [vS 97 (by omega) (by omega) (by omega) (by omega) (by omega)]) (fun j hj => by rw [v9 j (by omega), upd_ne _ _ (by omega)]) (fun q q1 q2 => vS q (by omega) (by omega) (by omega) (by omega) (by omega))
        have v82 : ∀ j, j < 20 → V.1 82 j = S.1 82 j := fun j hj => by
          rw [v3 82 (by omega), g_M_82, m_row_o _ _ _ _ _ _ (by omega), l4 j hj, to 82 (by omega)]
        refine ⟨_, T, V, rfl, ?_, ?_⟩
        · rw [to 97 (by omega), c2, if_neg (show ¬ (1 : Int32) = 0 by decide), to 98 (by omega), e9, nI_add, if_pos ((nle10k (by omega)).mpr h10), l1, some_bind']
          exact hm
        · exact dk_I_K hI (i_A_go (S := S) (vS 0 (by omega) (by omega) (by omega) (by omega) (by omega)) (vS 30 (by omega) (by omega) (by omega) (by omega) (by omega)) v82 (vS 83 (by omega) (by omega) (by omega) (by omega) (by omega)) vv2 hI.1) hVK (fun q hq => vS q (by omega) (by omega) (by omega) (by omega) (by omega)) vv2
      · rw [if_neg (fun q => h10 ((nle10k (by omega)).mp q))]
        refine ⟨_, _, _, rfl, ?_, dk_I_up hI⟩
        rw [c2, if_neg (show ¬ (1 : Int32) = 0 by decide), e9, nI_add, if_neg (fun q => h10 ((nle10k (by omega)).mp q))]
  · simp only [if_neg h, i_10, if_false, if_true]
    exact ⟨_, _, _, rfl, rfl, dk_I_up hI⟩
