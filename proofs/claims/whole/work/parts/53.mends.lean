/-! mends -/
theorem an_fn {n f : Nat} {S T V : dk_S} {B : Int} (hf : f < 6) (hI : dk_I n S) (hc : c_sm S T) (hB : c_ok B T) (hB2 : B ≤ 10000000 * ((n + 1 : Nat) : Int)) (hm : m_sm (q_fnd T f) V) : dk_I (n + 1) (q_nts V f) := by
  obtain ⟨⟨a1, a2, a3, a4, a5⟩, hX, hS⟩ := dk_I_fn hf hI
  have e2 : (q_nts V f).2 = T.2 := hm.2.1
  have h0 : ∀ q, ¬ q = 0 → ¬ q = 30 → ¬ q = 82 → ¬ q = 83 → (q < 95 ∨ q = 97 ∨ q = 98) → ¬ (16 ≤ q ∧ q ≤ 28) → (q_nts V f).1 q = (q_nts (q_fnd S f) f).1 q := fun q q0 q1 q2 q3 q4 q5 => by
    unfold q_nts
    rw [dk_sr_ne _ _ q3, dk_sr_ne _ _ q2, dk_sr_ne _ _ q3, dk_sr_ne _ _ q2, hm.1 q q4 q2, q_fnd_ne _ _ q0 q1, q_fnd_ne _ _ q0 q1, hc.1 q q5]
  have g0 : (q_nts V f).1 0 = (q_nts (q_fnd S f) f).1 0 := by
    have h := hm.1 0 (by omega) (by omega)
    simp (disch := omega) only [q_nts, q_fnd, dk_sr_ne, dk_sr_same] at h ⊢
    rw [h, hc.1 0 (by omega)]
  have g30 : (q_nts V f).1 30 = (q_nts (q_fnd S f) f).1 30 := by
    have h := hm.1 30 (by omega) (by omega)
    simp (disch := omega) only [q_nts, q_fnd, dk_sr_ne, dk_sr_same] at h ⊢
    rw [h, hc.1 30 (by omega)]
  have g83 : (q_nts V f).1 83 = (q_nts (q_fnd S f) f).1 83 := by
    have h := hm.1 83 (by omega) (by omega)
    simp (disch := omega) only [q_nts, q_fnd, dk_sr_ne, dk_sr_same] at h ⊢
    rw [h, hc.1 83 (by omega)]
  have g82 : ∀ j, j < 20 → (q_nts V f).1 82 j = (q_nts (q_fnd S f) f).1 82 j := fun j hj => by
    have h := hm.2.2 j hj
    simp (disch := omega) only [q_nts, q_fnd, dk_sr_ne, dk_sr_same] at h ⊢
    rw [upd_at, upd_at, h, hc.1 82 (by omega)]
  have s0 : (q_nts V f).2 0 = (q_nts (q_fnd S f) f).2 0 := by rw [e2]; exact hc.2 0 (by omega) (by omega)
  have s82 : (q_nts V f).2 82 = (q_nts (q_fnd S f) f).2 82 := by rw [e2]; exact hc.2 82 (by omega) (by omega)
  refine ⟨⟨by rw [g0, g82 0 (by omega)]; exact a1, fun j hj => by rw [g30, g83]; exact a2 j hj, by rw [g0, g82 2 (by omega)]; exact a3, by rw [s0, s82]; exact a4, by rw [s0, s82]; exact a5⟩, i_X_congr (fun q hq => ?_) hX, ?_⟩
  · unfold i_core at hq
    exact h0 q (by omega) (by omega) (by omega) (by omega) (by omega) (by omega)
  · exact (hB.c (by rw [e2]) (by rw [e2])).up hB2
def p_Q (P : p_P) (x : Int32) : Prop := 3 ≤ x ∧ x ≤ P.2.2.2.2
theorem p_S_Q (P : p_P) (b p f : Int32) : ((p_S P b p f).2.2 = 0 → p_Q P (p_S P b p f).1) ∧ (p_Q P (p_S P b p f).1 → (p_S P b p f).2.2 = 0) := by
  unfold p_S p_Q
  by_cases h3 : 3 ≤ p_q P b p f
  · rw [if_pos h3]
    by_cases h4 : p_q P b p f ≤ P.2.2.2.2
    · rw [if_pos h4]; exact ⟨fun _ => ⟨h3, h4⟩, fun _ => rfl⟩
    · rw [if_neg h4]; exact ⟨fun h => absurd (show (2 : Int32) = 0 from h) (by decide), fun h => absurd h.2 h4⟩
  · rw [if_neg h3]; exact ⟨fun h => absurd (show (1 : Int32) = 0 from h) (by decide), fun h => absurd (show (3 : Int32) ≤ 0 from h.1) (by decide)⟩
def p_J (P : p_P) (n : Nat) (pcs : Nat → Int32) (p i : Int32) : Prop := (∀ j, 1 ≤ j → j < n → p_Q P (pcs j)) ∧ (i = 0 → 1 ≤ n → p_Q P p)
theorem p_go_J {P : p_P} (hl : P.2.2.2.2.toInt ≤ 99) : ∀ (c n : Nat) (wh : Nat → Option Nat) (pcs : Nat → Int32) (p f i : Int32), p_I n wh pcs p f i → p_J P n pcs p i → p_I (p_go P c n wh pcs p f i).1 (p_go P c n wh pcs p f i).2.1 (p_go P c n wh pcs p f i).2.2.1 (p_go P c n wh pcs p f i).2.2.2.1 (p_go P c n wh pcs p f i).2.2.2.2.1 (p_go P c n wh pcs p f i).2.2.2.2.2 ∧ p_J P (p_go P c n wh pcs p f i).1 (p_go P c n wh pcs p f i).2.2.1 (p_go P c n wh pcs p f i).2.2.2.1 (p_go P c n wh pcs p f i).2.2.2.2.2 := by
  intro c
  induction c with
  | zero => intro n wh pcs p f i h1 h2; exact ⟨h1, h2⟩
  | succ c ih =>
    intro n wh pcs p f i h1 h2
    rw [p_go]
    by_cases hc : i = 0 ∧ wh (p_ix p f) = none
    · rw [if_pos hc]
      obtain ⟨rfl, hw⟩ := hc
      refine ih _ _ _ _ _ _ (p_I_next hl h1) ⟨fun j hj1 hj2 => ?_, fun hi _ => (p_S_Q P 0 p f).1 hi⟩
      dsimp only
      rw [if_neg (by omega)]
      by_cases hjn : j = n
      · rw [hjn, h1.2.2.1]; exact h2.2 rfl (by omega)
      · exact h2.1 j hj1 (by omega)
    · rw [if_neg hc]; exact ⟨h1, h2⟩
theorem p_lo_Q {P : p_P} {g : Nat → Int32} : ∀ (k i : Nat) (x : Int32), p_Q P x → (∀ j, i ≤ j → j < i + k → p_Q P (g j)) → p_Q P (p_lo g k i x) := by
  intro k
  induction k with
  | zero => intro i x h _; exact h
  | succ k ih =>
    intro i x h hg
    rw [p_lo]
    refine ih (i + 1) _ ?_ (fun j h1 h2 => hg j (by omega) (by omega))
    unfold p_mn
    by_cases hc : g i < x
    · rw [if_pos hc]; exact hg i (by omega) (by omega)
    · rw [if_neg hc]; exact h
theorem g_K_Q {P : p_P} (hl : P.2.2.2.2.toInt ≤ 99) {a : Nat} (ha : a ≤ 99) (h : g_w P a = true) : p_Q P (g_K P a).2.2.1 := by
  have hk : (g_K P a).1 = 1 ∨ (g_K P a).1 = 6 := by
    unfold g_w k_of at h
    rcases of_decide_eq_true h with h | h | ⟨-, h⟩ | ⟨h, -⟩
    · exact absurd h (by decide)
    · exact Or.inl h.symm
    · exact Or.inr h
    · exact absurd h (by decide)
  unfold g_K at hk ⊢
  have hJ := p_go_J hl 400 0 (fun _ => none) (fun _ => nI a) (nI a) 0 0 (p_I_0 ha) ⟨fun j h1 h2 => by omega, fun _ h => by omega⟩
  rw [p_res_eq] at hJ
  generalize p_res P (nI a) = z at hk hJ ⊢
  obtain ⟨n, wh, pcs, p, f, i⟩ := z
  obtain ⟨⟨j1, j2, j3, j4⟩, k1, k2⟩ := hJ
  dsimp only at j1 j2 j3 j4 k1 k2
  unfold p_K at hk ⊢
  dsimp only at hk ⊢
  by_cases hi : i = 0
  · rw [if_pos hi] at hk ⊢
    cases hw : wh (p_ix p f) with
    | none => rw [hw] at hk; exact absurd (show (3 : Int32) = 1 ∨ (3 : Int32) = 6 from hk) (by decide)
    | some m0 =>
      dsimp only
      obtain ⟨hm, a', b', ha', hb', e1, e2⟩ := j4 _ _ hw
      obtain ⟨⟨u, hu, rfl⟩, hf⟩ := j1 hi
      obtain ⟨b, hb, rfl⟩ := p_foot hf
      rw [(p_ix_nI (a := u) (by omega) hb).2] at e1
      have hua : u = a' := by omega
      subst hua
      have hp := k2 hi (by omega)
      refine p_lo_Q _ _ _ hp (fun j h1 h2 => ?_)
      by_cases hj : j = 0
      · rw [hj, show 0 = m0 by omega, e2]; exact hp
      · exact k1 j (by omega) (by omega)
  · rw [if_neg hi] at hk
    exfalso
    by_cases h1 : i = 1
    · rw [if_pos h1] at hk; exact absurd (show (4 : Int32) = 1 ∨ (4 : Int32) = 6 from hk) (by decide)
    · rw [if_neg h1] at hk; exact absurd (show (5 : Int32) = 1 ∨ (5 : Int32) = 6 from hk) (by decide)
def x_it (P : p_P) (y : Int32) : Nat → Nat → Int32 → Int32 → Int32 → Option Nat
  | 0, _, _, _, _ => none
  | k + 1, t, p, f, i => if i = 0 then (if (p_S P 0 p f).2.2 = 0 ∧ (p_S P 0 p f).1 = y then some (t + 1) else x_it P y k (t + 1) (p_S P 0 p f).1 (p_S P 0 p f).2.1 (p_S P 0 p f).2.2) else none
theorem e_mends {S0 : dk_S} {sz : Nat → Int32} {rb sl y : Int32} {c : Nat → Int32} (hc : c 3 = sl) (hy : p_Q (c_P sz sl rb) y) : ∀ (m k t : Nat) (p f i lo we : Int32) (S : dk_S), t + k = 400 → k < m → c_T sz rb S → S.1 17 = c_row c p f (nI t) i lo we → c_sm S0 S → S.2 = S0.2 →
    ∃ T, fX8_mends_L91 y m (nI (t + 1)) S = (match x_it (c_P sz sl rb) y k t p f i with | some q => some (nI q, T) | none => some (-9, T)) ∧ c_sm S0 T ∧ T.2 = S0.2 := by
  intro m
  induction m with
  | zero => intro k t p f i lo we S h1 h2; omega
  | succ m ih =>
    intro k t p f i lo we S h1 h2 hT hr hsm h22
    rw [fX8_mends_L91]
    cases k with
    | zero =>
      rw [if_pos (show (400 : Int32) < nI (t + 1) from (nI_ltI (a := 400) (by omega) (by omega)).mpr (by omega))]
      exact ⟨S, rfl, hsm, h22⟩
    | succ k =>
      rw [if_neg (show ¬ (400 : Int32) < nI (t + 1) from fun g => by have := (nI_ltI (a := 400) (by omega) (by omega)).mp g; omega), x_it]
      by_cases hi : i = 0
      · subst hi
        rw [if_pos rfl, x_cst hT hr hc (by omega), some_bind', if_neg (show ¬ (1 : Int32) = 0 by decide)]
        dsimp only
        rw [dk_sr_same, c_row_4]
        by_cases hw : (p_S (c_P sz sl rb) 0 p f).1 = y
        · rw [if_pos hw, if_pos ⟨(p_S_Q _ _ _ _).2 (by rw [hw]; exact hy), hw⟩]
          exact ⟨_, rfl, hsm.tr c_sm.row, h22⟩
        · rw [if_neg hw, if_neg (fun g => hw g.2), nI_1]
          exact ih k (t + 1) _ _ _ _ _ _ (by omega) (by omega) hT.row (dk_sr_same _ _ _) (hsm.tr c_sm.row) h22
      · rw [if_neg hi, q_stride0 (by rw [hr, c_row_7]; exact hi), some_bind', if_pos rfl]
        exact ⟨S, rfl, hsm, h22⟩
theorem e_mmends {S0 : dk_S} {sz : Nat → Int32} {rb sl y : Int32} {c : Nat → Int32} (hok : a_ok sz) : ∀ (m k t : Nat) (p f i lo we : Int32) (S : dk_S), t + k = 400 → k < m → m_T sz rb sl 0 0 S → S.1 82 = m_row c p f i lo we → (f = 0 ∨ f = 1) → m_sm S0 S →
    ∃ T, fX9_mends_L61 y m (nI t) S = (match x_it (c_P sz sl rb) y k t p f i with | some q => some (nI q, T) | none => some (-9, T)) ∧ m_sm S0 T := by
  intro m
  induction m with
  | zero => intro k t p f i lo we S h1 h2; omega
  | succ m ih =>
    intro k t p f i lo we S h1 h2 hT hr hf hsm
    rw [fX9_mends_L61]
    cases k with
    | zero =>
      rw [if_pos (show (400 : Int32) ≤ nI t from (nI_leI (a := 400) (by omega) (by omega)).mpr (by omega))]
      exact ⟨S, rfl, hsm⟩
    | succ k =>
      rw [if_neg (show ¬ (400 : Int32) ≤ nI t from fun g => by have := (nI_leI (a := 400) (by omega) (by omega)).mp g; omega), x_it, hr, m_row_27]
      by_cases hi : i = 0
      · subst hi
        rw [if_pos rfl, if_pos rfl, x_mst hT hok hr hf (by omega), some_bind', dk_lt_eq]
        have hg : ∀ j, j < 25 → (m_row c (p_S (c_P sz sl rb) 0 p f).1 (p_S (c_P sz sl rb) 0 p f).2.1 (p_S (c_P sz sl rb) 0 p f).2.2 (lo + p * p / (c_P sz sl rb).2.2.1) (we + (sz 3 + (p_S (c_P sz sl rb) 0 p f).1 / 10))) j = S.1 82 j := fun j hj => by rw [hr, m_row_o _ _ _ _ _ _ (by omega), m_row_o _ _ _ _ _ _ (by omega)]
        rw [dk_sr_same, m_row_27, m_row_25, nI_1]
        have hih := ih k (t + 1) _ _ _ _ _ _ (by omega) (by omega) (hT.row hg) (dk_sr_same _ _ _) (p_S_f _ _ _ _ hf) (hsm.tr (m_sm.row hg))
        by_cases hw : (p_S (c_P sz sl rb) 0 p f).2.2 = 0
        · rw [if_pos hw]
          by_cases hw2 : (p_S (c_P sz sl rb) 0 p f).1 = y
          · rw [if_pos hw2, if_pos ⟨hw, hw2⟩]
            exact ⟨_, rfl, hsm.tr (m_sm.row hg)⟩
          · rw [if_neg hw2, if_neg (fun g => hw2 g.2)]
            exact hih
        · rw [if_neg hw, if_neg (fun g => hw g.1)]
          exact hih
      · rw [if_neg hi, if_neg hi]
        exact ⟨S, rfl, hsm⟩
theorem pr_mends (a1 : Int32) (a2 : Int32) (a3 : Int32) (a4 : Int32) (a5 : Int32) {n : Nat} {S : dk_S} (hn : n < 512) (hI : dk_I n S) : ∃ (r : Int32) (S1 S2 : dk_S), fX8_mends a1 a2 a3 a4 a5 S = some (r, S1) ∧ fX9_mends a1 a2 a3 a4 a5 S1 = some (r, S2) ∧ dk_I (n + 1) S2 := by
  unfold fX8_mends fX9_mends
  simp only [q_isOutside, q_in, some_bind']
  by_cases hg : h_g a1 a2 a3 a4
  · rw [q_nG_t hg, some_bind', if_pos rfl]
    by_cases h4 : 1 ≤ a5 ∧ a5 ≤ 20
    · simp only [if_pos h4, if_true]
      obtain ⟨k, l, t, a, hk, hl, ht, ha, rfl, rfl, rfl, rfl⟩ := h_g_of hg
      rcases h_two hI hk hl with ⟨S1, sz, rb, e1, e2, e3, e4, e5, -, -, -, e8⟩ | ⟨e1, e2⟩
      · have hok := a_ok_sz e5
        obtain ⟨T, f1, f2, f3, f4, -, f6⟩ := q_well (nI t) e2 hok.2 ((c_ok.of hI.2.2).c (by rw [e4]) (by rw [e4])) (by omega) ha
        rw [e1, some_bind', if_neg (show ¬ (1 : Int32) = 0 by decide), f1, some_bind']
        have hsm := e3.tr f3
        cases hb : g_w (c_P sz (nI t) rb) a with
        | false =>
          rw [if_pos k_b_f, q_found3, some_bind']
          obtain ⟨S2, g1, g2, g3⟩ := e8 (q_fnd T 3) 1 t a (by decide) ht ha (fun q hq => by rw [q_fnd_ne _ _ (by omega) (by omega)]; exact hsm.1 q (by omega))
          obtain ⟨V, v1, v2, v3, -⟩ := q_mwell g2 hok ha
          rw [← a_P_c hok, hb] at v1
          refine ⟨_, _, _, rfl, ?_, an_fn (f := 3) (by omega) hI hsm f4 (by omega) (g3.tr v3)⟩
          rw [g1, some_bind', if_pos (show (0 : Int32) ≤ 0 by decide), v1, some_bind', if_pos k_b_f, q_notes3, some_bind']
        | true =>
          rw [if_neg k_b_t, dk_lt_eq, q_begin, some_bind']
          dsimp only
          rw [f6 hb]
          generalize hyy : (g_K (c_P sz (nI t) rb) a).2.2.1 = y
          have hy : p_Q (c_P sz (nI t) rb) y := by rw [← hyy]; exact g_K_Q hok.2 ha hb
          obtain ⟨T2, u1, u2, u3⟩ := e_mends (S0 := T) (sz := sz) (rb := rb) (sl := nI t) (y := y) (c := upd (T.1 17) 3 (nI t)) (upd_same _ _ _) hy dk_FU 400 0 (y + a5) 0 0 0 0 (dk_sr T 17 (c_row (upd (T.1 17) 3 (nI t)) (y + a5) 0 (nI 0) 0 0 0)) (by omega) (by have := dk_FU_ge; omega) f2.row (dk_sr_same _ _ _) c_sm.row rfl
          have u1' : fX8_mends_L91 y dk_FU 1 (dk_sr T 17 (c_row (upd (T.1 17) 3 (nI t)) (y + a5) 0 (nI 0) 0 0 0)) = _ := u1
          rw [u1']
          have hsm2 := hsm.tr u2
          obtain ⟨S2, g1, g2, g3⟩ := e8 T2 1 t a (by decide) ht ha (fun q hq => hsm2.1 q (by omega))
          obtain ⟨V, v1, v2, v3, -, -, v6⟩ := q_mwell g2 hok ha
          rw [← a_P_c hok, hb] at v1
          rw [← a_P_c hok] at v6
          have hgg : ∀ j, j < 25 → (m_row (V.1 82) (y + a5) 0 0 0 0) j = V.1 82 j := fun j hj => m_row_o _ _ _ _ _ _ (by omega)
          obtain ⟨W, w1, w2⟩ := e_mmends (S0 := T2) (sz := sz) (rb := rb) (sl := nI t) (y := y) (c := V.1 82) hok dk_FU 400 0 (y + a5) 0 0 0 0 (dk_sr V 82 (m_row (V.1 82) (y + a5) 0 0 0 0)) (by omega) (by have := dk_FU_ge; omega) (v2.row hgg) (dk_sr_same _ _ _) (Or.inl rfl) ((g3.tr v3).tr (m_sm.row hgg))
          have w1' : fX9_mends_L61 y dk_FU 0 (dk_sr V 82 (m_row (V.1 82) (y + a5) 0 0 0 0)) = _ := w1
          have hI2 := an_none hI hsm2 (f4.c (by rw [u3]) (by rw [u3])) (by omega) w2
          have hmm : ∀ (r : Int32), (match x_it (c_P sz (nI t) rb) y 400 0 (y + a5) 0 0 with | some q => some (nI q, W) | none => some ((-9 : Int32), W)) = some (r, W) → ((fX9_need 1 (nI k) (nI l) (nI t) (nI a) T2).bind fun r2 => if 0 ≤ r2.1 then (fX9_walksWell (nI a) r2.2).bind (fun r4 => if r4.1 = 0 then (fX9_notes 3 r4.2).bind (fun r15 => some (r15.1, r15.2)) else dk_lt (r4.2.1 82 36) (fun y6 : Int32 => (fX9_starts (y6 + a5) 0 r4.2).bind (fun r7 => fX9_mends_L61 y6 dk_FU 0 r7))) else some (r2.1, r2.2)) = some (r, W) := fun r hr => by
            rw [g1, some_bind', if_pos (show (0 : Int32) ≤ 0 by decide), v1, some_bind', if_neg k_b_t, dk_lt_eq, q_starts, some_bind']
            dsimp only
            rw [v6 hb, hyy, w1']
            exact hr
          cases hv : x_it (c_P sz (nI t) rb) y 400 0 (y + a5) 0 0 with
          | none => exact ⟨_, _, _, rfl, hmm _ (by rw [hv]), hI2⟩
          | some q => exact ⟨_, _, _, rfl, hmm _ (by rw [hv]), hI2⟩
      · rw [e1, some_bind', if_pos rfl, q_found1, some_bind']
        refine ⟨_, _, _, rfl, ?_, dk_I_fn (f := 1) (by omega) hI⟩
        rw [e2 1 t a (by decide) ht ha, some_bind', if_neg n3neg]
    · simp only [if_neg h4, i_10, if_false]
      refine ⟨_, _, _, rfl, ?_, dk_I_up hI⟩
      rw [q_need_bad (Or.inl rfl), some_bind', if_neg n1neg]
  · rw [q_nG_f hg, some_bind', if_neg (show ¬ (1 : Int32) = 0 by decide)]
    refine ⟨_, _, _, rfl, ?_, dk_I_up hI⟩
    rw [q_need_bad (Or.inr hg), some_bind', if_neg n1neg]
