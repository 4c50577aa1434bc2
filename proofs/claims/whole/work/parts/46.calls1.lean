/-! going, mark .. : the heads that the calls share -/
abbrev h_g (w b s p : Int32) : Prop := ((0 ≤ w ∧ w ≤ 3) ∧ (0 ≤ b ∧ b ≤ 3) ∧ (0 ≤ p ∧ p ≤ 99)) ∧ (0 ≤ s ∧ s ≤ 99)
theorem h_g_of {w b s p : Int32} (h : h_g w b s p) : ∃ k l t a, k < 4 ∧ l < 4 ∧ t ≤ 99 ∧ a ≤ 99 ∧ w = nI k ∧ b = nI l ∧ s = nI t ∧ p = nI a := by
  obtain ⟨⟨h1, h2, h3⟩, h4⟩ := h
  obtain ⟨k, hk, e1⟩ := b_4 h1
  obtain ⟨l, hl, e2⟩ := b_4 h2
  obtain ⟨a, ha, e3⟩ := dI_of (n := 99) (by omega) h3.1 h3.2
  obtain ⟨t, ht, e4⟩ := dI_of (n := 99) (by omega) h4.1 h4.2
  exact ⟨k, l, t, a, hk, hl, ht, ha, e1, e2, e4, e3⟩
theorem q_need_bad {x w b s p : Int32} {S : dk_S} (h : x = 0 ∨ ¬ h_g w b s p) : fX9_need x w b s p S = some (-1, S) := by
  unfold fX9_need
  by_cases hx : x = 0
  · rw [if_pos hx]
  · have hb : ¬ h_g w b s p := h.resolve_left hx
    rw [if_neg hx, q_areGood, if_neg (fun q => hb ⟨⟨q.1, q.2.1, q.2.2.2⟩, q.2.2.1⟩), some_bind', if_pos rfl]
theorem q_nG_t {w b s p : Int32} {S : dk_S} (h : h_g w b s p) : fX8_noGoing w b s p S = some (0, S) := by rw [q_noGoing, if_pos h]
theorem q_nG_f {w b s p : Int32} {S : dk_S} (h : ¬ h_g w b s p) : fX8_noGoing w b s p S = some (1, S) := by rw [q_noGoing, if_neg h]
theorem q_nP_t {w b p : Int32} {S : dk_S} (h : h_g w b 0 p) : fX8_noPair w b p S = some (0, S) := by rw [q_noPair, if_pos h.1]
theorem q_nP_f {w b p : Int32} {S : dk_S} (h : ¬ h_g w b 0 p) : fX8_noPair w b p S = some (1, S) := by rw [q_noPair, if_neg (fun q => h ⟨q, by decide, by decide⟩)]
/-- both are there, or not: what class and model say -/
theorem h_two {n : Nat} {S : dk_S} {k l : Nat} (hI : dk_I n S) (hk : k < 4) (hl : l < 4) :
    (∃ S1 sz rb, fX8_isReady (nI k) (nI l) S = some (1, S1) ∧ c_T sz rb S1 ∧ c_sm S S1 ∧ S1.2 = S.2 ∧ i_sz sz ∧ (∃ u, u ≤ 9 ∧ rb = nI u) ∧ sz = S.1 (52 + 2 * k) ∧ S1.1 18 1 = S.1 (51 + 2 * k) 1 ∧ (∀ (G : dk_S) (x : Int32) (s a : Nat), ¬ x = 0 → s ≤ 99 → a ≤ 99 → (∀ q, 82 < q → G.1 q = S.1 q) → ∃ S2, fX9_need x (nI k) (nI l) (nI s) (nI a) G = some (0, S2) ∧ m_T sz rb (nI s) 0 0 S2 ∧ m_sm G S2)) ∨
    (fX8_isReady (nI k) (nI l) S = some (0, S) ∧ (∀ (x : Int32) (s a : Nat), ¬ x = 0 → s ≤ 99 → a ≤ 99 → fX9_need x (nI k) (nI l) (nI s) (nI a) (q_fnd S 1) = some (-3, q_nts (q_fnd S 1) 1))) := by
  obtain ⟨hA, ⟨hR, hT, hW, hB, hK⟩, hS⟩ := hI
  obtain ⟨w1, w2, w3, w4, w5, w6⟩ := hW k hk
  obtain ⟨b1, b2, b3, b4⟩ := hB l hl
  rcases q_isReady hk hl hW hB with ⟨e1, e2, S1, e3, e4, e5, e6, e7⟩ | ⟨e1, e3⟩
  · refine Or.inl ⟨S1, _, _, e3, e4, e5, e6, w6 e1, (b3 e2).2, rfl, e7, fun G x s a hx hs ha hG => ?_⟩
    obtain ⟨S2, g1, g2, g3⟩ := (q_need (S := G) hx hk hl hs ha (by rw [hG 89 (by omega)]; exact w2) (by rw [hG 91 (by omega)]; exact b2)).1 ⟨by rw [hG 89 (by omega)]; exact e1, by rw [hG 91 (by omega)]; exact e2⟩
    refine ⟨S2, g1, ?_, g3⟩
    obtain ⟨t1, t2, t3⟩ := g2
    rw [hG 92 (by omega)] at t2
    refine ⟨fun j hj => ?_, by rw [t2]; exact (b3 e2).1.symm, t3⟩
    rw [t1 j hj, hG 90 (by omega)]
    exact (w3 j hj).symm
  · refine Or.inr ⟨e3, fun x s a hx hs ha => ?_⟩
    have f89 : (q_fnd S 1).1 89 = S.1 89 := q_fnd_ne _ _ (by omega) (by omega)
    have f91 : (q_fnd S 1).1 91 = S.1 91 := q_fnd_ne _ _ (by omega) (by omega)
    exact (q_need (S := q_fnd S 1) hx hk hl hs ha (by rw [f89]; exact w2) (by rw [f91]; exact b2)).2 (by rw [f89, f91]; exact e1)
theorem n3neg : ¬ (0 : Int32) ≤ -3 := by decide
theorem n1neg : ¬ (0 : Int32) ≤ -1 := by decide
theorem m_hi {S G : dk_S} (h : c_sm S G) {v : Int32} : ∀ q, 82 < q → (dk_sr G 0 (upd (G.1 0) 12 v)).1 q = S.1 q := fun q hq => by rw [dk_sr_ne _ _ (by omega), h.1 q (by omega)]
theorem pr_going (a1 : Int32) (a2 : Int32) (a3 : Int32) (a4 : Int32) {n : Nat} {S : dk_S} (hn : n < 512) (hI : dk_I n S) : ∃ (r : Int32) (S1 S2 : dk_S), fX8_going a1 a2 a3 a4 S = some (r, S1) ∧ fX9_going a1 a2 a3 a4 S1 = some (r, S2) ∧ dk_I (n + 1) S2 := by
  unfold fX8_going fX9_going
  by_cases hg : h_g a1 a2 a3 a4
  · rw [q_nG_t hg, some_bind', if_pos rfl]
    obtain ⟨k, l, t, a, hk, hl, ht, ha, rfl, rfl, rfl, rfl⟩ := h_g_of hg
    rcases h_two hI hk hl with ⟨S1, sz, rb, e1, e2, e3, e4, e5, -, -, -, e8⟩ | ⟨e1, e2⟩
    · rw [e1, some_bind', if_neg (show ¬ (1 : Int32) = 0 by decide)]
      have hok := a_ok_sz e5
      obtain ⟨T, f1, f2, f3, f4, -, f5, f6, -⟩ := q_find2 (nI t) e2 hok.2 ((c_ok.of hI.2.2).c (by rw [e4]) (by rw [e4])) (by omega) ha
      rw [f1, some_bind', q_tell, some_bind']
      have hsm := e3.tr f3
      obtain ⟨S2, g1, g2, g3⟩ := e8 (dk_sr T 0 (upd (T.1 0) 12 (T.1 16 2))) 1 t a (by decide) ht ha (m_hi hsm)
      obtain ⟨T2, k1, k2, k3, -, -, k4, -⟩ := q_going2 g2 hok ha
      rw [← a_P_c hok] at k1 k4
      refine ⟨_, _, _, rfl, ?_, an_tell (v := T.1 16 2) hI hsm f4 (by omega) (g3.tr k3)⟩
      rw [g1, some_bind', if_pos (show (0 : Int32) ≤ 0 by decide), k1, some_bind', q_tells, some_bind', k4, f6, dk_sr_ne _ _ (by omega), f5]
    · rw [e1, some_bind', if_pos rfl, q_found1, some_bind']
      refine ⟨_, _, _, rfl, ?_, dk_I_fn (f := 1) (by omega) hI⟩
      rw [e2 1 t a (by decide) ht ha, some_bind', if_neg n3neg]
  · rw [q_nG_f hg, some_bind', if_neg (show ¬ (1 : Int32) = 0 by decide)]
    refine ⟨_, _, _, rfl, ?_, dk_I_up hI⟩
    rw [q_need_bad (Or.inr hg), some_bind', if_neg n1neg]
