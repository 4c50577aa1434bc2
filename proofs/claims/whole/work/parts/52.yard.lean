/-! strides and steps of what is looked at; yard -/
theorem c_P_c {f g : Nat → Int32} (h : ∀ j, j < 6 → f j = g j) (sl rb : Int32) : c_P f sl rb = c_P g sl rb := by
  unfold c_P
  rw [h 0 (by omega), h 1 (by omega), h 2 (by omega), h 3 (by omega), h 4 (by omega), h 5 (by omega)]
theorem p_S_f (P : p_P) (b p f : Int32) (h : f = 0 ∨ f = 1) : (p_S P b p f).2.1 = 0 ∨ (p_S P b p f).2.1 = 1 := by
  unfold p_S
  by_cases h3 : 3 ≤ p_q P b p f
  · rw [if_pos h3]
    by_cases h4 : p_q P b p f ≤ P.2.2.2.2
    · rw [if_pos h4]
      rcases h with rfl | rfl
      · exact Or.inr rfl
      · exact Or.inl rfl
    · rw [if_neg h4]; exact h
  · rw [if_neg h3]; exact h
theorem x_cst {S : dk_S} {sz : Nat → Int32} {rb sl p f lo we : Int32} {st : Nat} {c : Nat → Int32} (hT : c_T sz rb S) (h : S.1 17 = c_row c p f (nI st) 0 lo we) (hc : c 3 = sl) (hst : st < 2 ^ 31) :
    fX0_stride 17 S = some (1, dk_sr S 17 (c_row c (p_S (c_P sz sl rb) 0 p f).1 (p_S (c_P sz sl rb) 0 p f).2.1 (nI (st + 1)) (p_S (c_P sz sl rb) 0 p f).2.2 (lo + p * p / (c_P sz sl rb).2.2.1) (we + (sz 3 + (p_S (c_P sz sl rb) 0 p f).1 / 10)))) := by
  have := q_stride h hst
  obtain ⟨t1, t2, t3⟩ := hT
  rw [c_P_c t1, t2, hc, t1 3 (by omega), show c_b (S.1 21) st = 0 from (by unfold c_b; by_cases hs : st ≤ 99; (· rw [if_pos hs]; exact t3 st (by omega)); (· rw [if_neg hs]))] at this
  exact this
theorem x_mst {S : dk_S} {sz : Nat → Int32} {rb sl p f lo we : Int32} {t : Nat} {c : Nat → Int32} (hT : m_T sz rb sl 0 0 S) (hok : a_ok sz) (h : S.1 82 = m_row c p f 0 lo we) (hf : f = 0 ∨ f = 1) (ht : t < 2 ^ 31) :
    fX9_steps (nI t) S = some (dk_sr S 82 (m_row c (p_S (c_P sz sl rb) 0 p f).1 (p_S (c_P sz sl rb) 0 p f).2.1 (p_S (c_P sz sl rb) 0 p f).2.2 (lo + p * p / (c_P sz sl rb).2.2.1) (we + (sz 3 + (p_S (c_P sz sl rb) 0 p f).1 / 10)))) := by
  obtain ⟨t1, t2, t3, t4, t5, t6⟩ := hT
  have h21 : c 21 = sl := by rw [← t3, h, m_row_o _ _ _ _ _ _ (by omega)]
  have h20 : c 20 = rb := by rw [← t2, h, m_row_o _ _ _ _ _ _ (by omega)]
  have hD : ¬ (8 + 2 * S.1 95 1) - S.1 95 2 = 0 := by
    rw [t1 1 (by omega), t1 2 (by omega)]
    intro q
    have := hok.1
    rw [q] at this
    exact absurd this (by decide)
  have hP : m_P (S.1 95) (c 21) (c 20) (S.1 96) = c_P sz sl rb := by
    rw [a_P_c hok]
    unfold m_P a_P
    rw [t1 0 (by omega), t1 1 (by omega), t1 2 (by omega), t1 3 (by omega), t1 4 (by omega), t1 5 (by omega), h21, h20, t4, t5]
  have hs := q_mstep (x := 0) h rfl hf hD
  rw [hP, t1 3 (by omega)] at hs
  unfold fX9_steps
  rw [t6, if_neg (nI_m9 ht), hs]
  rfl
theorem c_T.row {sz : Nat → Int32} {rb : Int32} {S : dk_S} {g : Nat → Int32} (h : c_T sz rb S) : c_T sz rb (dk_sr S 17 g) := by
  obtain ⟨t1, t2, t3⟩ := h
  exact ⟨fun j hj => by rw [dk_sr_ne _ _ (by omega)]; exact t1 j hj, by rw [dk_sr_ne _ _ (by omega)]; exact t2, fun j hj => by rw [dk_sr_ne _ _ (by omega)]; exact t3 j hj⟩
theorem c_sm.row {S : dk_S} {g : Nat → Int32} : c_sm S (dk_sr S 17 g) := ⟨fun p hp => by rw [dk_sr_ne _ _ (by omega)], fun _ _ _ => rfl⟩
theorem m_T.row {sz : Nat → Int32} {rb sl p0 p1 : Int32} {S : dk_S} {g : Nat → Int32} (h : m_T sz rb sl p0 p1 S) (hg : ∀ j, j < 25 → g j = S.1 82 j) : m_T sz rb sl p0 p1 (dk_sr S 82 g) := by
  obtain ⟨t1, t2, t3, t4, t5, t6⟩ := h
  exact ⟨fun j hj => by rw [dk_sr_ne _ _ (by omega)]; exact t1 j hj, by rw [dk_sr_same, hg 20 (by omega)]; exact t2, by rw [dk_sr_same, hg 21 (by omega)]; exact t3, by rw [dk_sr_ne _ _ (by omega)]; exact t4, by rw [dk_sr_ne _ _ (by omega)]; exact t5, by rw [dk_sr_same, hg 23 (by omega)]; exact t6⟩
theorem m_sm.row {S : dk_S} {g : Nat → Int32} (hg : ∀ j, j < 25 → g j = S.1 82 j) : m_sm S (dk_sr S 82 g) := ⟨fun p _ hp => by rw [dk_sr_ne _ _ hp], rfl, fun j hj => by rw [dk_sr_same, hg j (by omega)]⟩
def y_it (P : p_P) (s3 x : Int32) : Nat → Nat → Int32 → Int32 → Int32 → Int32 → Int32 → Option (Nat × Int32)
  | 0, _, _, _, _, _, _ => none
  | k + 1, t, p, f, i, lo, we => if i = 0 then (if we + (s3 + (p_S P 0 p f).1 / 10) < x then y_it P s3 x k (t + 1) (p_S P 0 p f).1 (p_S P 0 p f).2.1 (p_S P 0 p f).2.2 (lo + p * p / P.2.2.1) (we + (s3 + (p_S P 0 p f).1 / 10)) else some (t + 1, lo + p * p / P.2.2.1)) else none
theorem e_yard {S0 : dk_S} {sz : Nat → Int32} {rb sl x : Int32} {c : Nat → Int32} (hc : c 3 = sl) : ∀ (m k t : Nat) (p f i lo we : Int32) (S : dk_S), t + k = 400 → k < m → c_T sz rb S → S.1 17 = c_row c p f (nI t) i lo we → c_sm S0 S → S.2 = S0.2 →
    ∃ T, fX8_yard_L61 x m (nI (t + 1)) S = (match y_it (c_P sz sl rb) (sz 3) x k t p f i lo we with | some q => some (nI q.1, dk_sr T 0 (upd (T.1 0) 12 q.2)) | none => some (-9, T)) ∧ c_sm S0 T ∧ T.2 = S0.2 := by
  intro m
  induction m with
  | zero => intro k t p f i lo we S h1 h2; omega
  | succ m ih =>
    intro k t p f i lo we S h1 h2 hT hr hsm h22
    rw [fX8_yard_L61]
    cases k with
    | zero =>
      rw [if_pos (show (400 : Int32) < nI (t + 1) from (nI_ltI (a := 400) (by omega) (by omega)).mpr (by omega))]
      exact ⟨S, rfl, hsm, h22⟩
    | succ k =>
      rw [if_neg (show ¬ (400 : Int32) < nI (t + 1) from fun g => by have := (nI_ltI (a := 400) (by omega) (by omega)).mp g; omega), y_it]
      by_cases hi : i = 0
      · subst hi
        rw [if_pos rfl, x_cst hT hr hc (by omega), some_bind', if_neg (show ¬ (1 : Int32) = 0 by decide)]
        dsimp only
        rw [dk_sr_same, c_row_9, c_row_8]
        by_cases hw : we + (sz 3 + (p_S (c_P sz sl rb) 0 p f).1 / 10) < x
        · rw [if_pos hw, if_pos hw, nI_1]
          exact ih k (t + 1) _ _ _ _ _ _ (by omega) (by omega) hT.row (dk_sr_same _ _ _) (hsm.tr c_sm.row) h22
        · rw [if_neg hw, if_neg hw, q_tell, some_bind']
          exact ⟨_, rfl, hsm.tr c_sm.row, h22⟩
      · rw [if_neg hi, q_stride0 (by rw [hr, c_row_7]; exact hi), some_bind', if_pos rfl]
        exact ⟨S, rfl, hsm, h22⟩
theorem e_myard {S0 : dk_S} {sz : Nat → Int32} {rb sl x : Int32} {c : Nat → Int32} {kx : (Int32 × dk_S) → Option (Int32 × dk_S)} (hkx : ∀ v T, kx (v, T) = some (v + 1, dk_sr T 82 (upd (T.1 82) 2 (T.1 82 28)))) (hok : a_ok sz) : ∀ (m k t : Nat) (p f i lo we : Int32) (S : dk_S), t + k = 400 → k < m → m_T sz rb sl 0 0 S → S.1 82 = m_row c p f i lo we → (f = 0 ∨ f = 1) → m_sm S0 S →
    ∃ T, fX9_yard_L38 x kx m (nI t) S = (match y_it (c_P sz sl rb) (sz 3) x k t p f i lo we with | some q => some (nI q.1, dk_sr T 82 (upd (T.1 82) 2 q.2)) | none => some (-9, T)) ∧ m_sm S0 T := by
  intro m
  induction m with
  | zero => intro k t p f i lo we S h1 h2; omega
  | succ m ih =>
    intro k t p f i lo we S h1 h2 hT hr hf hsm
    rw [fX9_yard_L38]
    cases k with
    | zero =>
      rw [if_pos (show (400 : Int32) ≤ nI t from (nI_leI (a := 400) (by omega) (by omega)).mpr (by omega))]
      exact ⟨S, rfl, hsm⟩
    | succ k =>
      rw [if_neg (show ¬ (400 : Int32) ≤ nI t from fun g => by have := (nI_leI (a := 400) (by omega) (by omega)).mp g; omega), y_it, hr, m_row_27]
      by_cases hi : i = 0
      · subst hi
        rw [if_pos rfl, if_pos rfl, x_mst hT hok hr hf (by omega), some_bind']
        have hg : ∀ j, j < 25 → (m_row c (p_S (c_P sz sl rb) 0 p f).1 (p_S (c_P sz sl rb) 0 p f).2.1 (p_S (c_P sz sl rb) 0 p f).2.2 (lo + p * p / (c_P sz sl rb).2.2.1) (we + (sz 3 + (p_S (c_P sz sl rb) 0 p f).1 / 10))) j = S.1 82 j := fun j hj => by rw [hr, m_row_o _ _ _ _ _ _ (by omega), m_row_o _ _ _ _ _ _ (by omega)]
        rw [dk_sr_same, m_row_29]
        by_cases hw : we + (sz 3 + (p_S (c_P sz sl rb) 0 p f).1 / 10) < x
        · rw [if_pos hw, if_pos hw, nI_1]
          exact ih k (t + 1) _ _ _ _ _ _ (by omega) (by omega) (hT.row hg) (dk_sr_same _ _ _) (p_S_f _ _ _ _ hf) (hsm.tr (m_sm.row hg))
        · rw [if_neg hw, if_neg hw, hkx]
          refine ⟨_, ?_, hsm.tr (m_sm.row hg)⟩
          rw [dk_sr_same, m_row_28, nI_1]
      · rw [if_neg hi, if_neg hi]
        exact ⟨S, rfl, hsm⟩
theorem pr_yard (a1 : Int32) (a2 : Int32) (a3 : Int32) (a4 : Int32) (a5 : Int32) {n : Nat} {S : dk_S} (hn : n < 512) (hI : dk_I n S) : ∃ (r : Int32) (S1 S2 : dk_S), fX8_yard a1 a2 a3 a4 a5 S = some (r, S1) ∧ fX9_yard a1 a2 a3 a4 a5 S1 = some (r, S2) ∧ dk_I (n + 1) S2 := by
  unfold fX8_yard fX9_yard
  simp only [q_isOutside, q_in, some_bind']
  by_cases hg : h_g a1 a2 a3 a4
  · rw [q_nG_t hg, some_bind', if_pos rfl]
    by_cases h4 : 1 ≤ a5 ∧ a5 ≤ 2000
    · simp only [if_pos h4, if_true]
      obtain ⟨k, l, t, a, hk, hl, ht, ha, rfl, rfl, rfl, rfl⟩ := h_g_of hg
      rcases h_two hI hk hl with ⟨S1, sz, rb, e1, e2, e3, e4, e5, -, -, -, e8⟩ | ⟨e1, e2⟩
      · rw [e1, some_bind', if_neg (show ¬ (1 : Int32) = 0 by decide), q_begin, some_bind']
        have hok := a_ok_sz e5
        obtain ⟨T, f1, f2, f3⟩ := e_yard (S0 := S) (sz := sz) (rb := rb) (sl := nI t) (x := a5) (c := upd (S1.1 17) 3 (nI t)) (upd_same _ _ _) dk_FU 400 0 (nI a) 0 0 0 0 (dk_sr S1 17 (c_row (upd (S1.1 17) 3 (nI t)) (nI a) 0 (nI 0) 0 0 0)) (by omega) (by have := dk_FU_ge; omega) e2.row (dk_sr_same _ _ _) (e3.tr c_sm.row) (by rw [dk_sr_2, e4])
        have f1' : fX8_yard_L61 a5 dk_FU 1 (dk_sr S1 17 (c_row (upd (S1.1 17) 3 (nI t)) (nI a) 0 (nI 0) 0 0 0)) = _ := f1
        rw [f1']
        have hok0 : c_ok (10000000 * (n : Int)) T := (c_ok.of hI.2.2).c (by rw [f3]) (by rw [f3])
        have hm : ∀ G : dk_S, (∀ q, 82 < q → G.1 q = S.1 q) → ∃ S2 T2, fX9_need 1 (nI k) (nI l) (nI t) (nI a) G = some (0, S2) ∧ fX9_yard_L38 a5 (fun t5 : Int32 × dk_S => (fX9_tells (t5.2.1 82 28) (t5.1 + 1) t5.2).bind (fun r6 => some (r6.1, r6.2))) dk_FU 0 (dk_sr S2 82 (m_row (S2.1 82) (nI a) 0 0 0 0)) = (match y_it (c_P sz (nI t) rb) (sz 3) a5 400 0 (nI a) 0 0 0 0 with | some q => some (nI q.1, dk_sr T2 82 (upd (T2.1 82) 2 q.2)) | none => some (-9, T2)) ∧ m_sm G T2 := fun G hG => by
          obtain ⟨S2, g1, g2, g3⟩ := e8 G 1 t a (by decide) ht ha hG
          have hgg : ∀ j, j < 25 → (m_row (S2.1 82) (nI a) 0 0 0 0) j = S2.1 82 j := fun j hj => m_row_o _ _ _ _ _ _ (by omega)
          obtain ⟨T2, k1, k2⟩ := e_myard (S0 := G) (sz := sz) (rb := rb) (sl := nI t) (x := a5) (c := S2.1 82) (kx := fun t5 : Int32 × dk_S => (fX9_tells (t5.2.1 82 28) (t5.1 + 1) t5.2).bind (fun r6 => some (r6.1, r6.2))) (fun v T => rfl) hok dk_FU 400 0 (nI a) 0 0 0 0 _ (by omega) (by have := dk_FU_ge; omega) (g2.row hgg) (dk_sr_same _ _ _) (Or.inl rfl) (g3.tr (m_sm.row hgg))
          exact ⟨S2, T2, g1, k1, k2⟩
        cases hv : y_it (c_P sz (nI t) rb) (sz 3) a5 400 0 (nI a) 0 0 0 0 with
        | none =>
          obtain ⟨S2, T2, g1, k1, k2⟩ := hm T (fun q hq => f2.1 q (by omega))
          rw [hv] at k1
          refine ⟨_, _, _, rfl, ?_, an_none hI f2 hok0 (by omega) k2⟩
          rw [g1, some_bind', if_pos (show (0 : Int32) ≤ 0 by decide), q_starts, some_bind', k1]
        | some q =>
          obtain ⟨S2, T2, g1, k1, k2⟩ := hm (dk_sr T 0 (upd (T.1 0) 12 q.2)) (m_hi f2)
          rw [hv] at k1
          refine ⟨_, _, _, rfl, ?_, an_tell hI f2 hok0 (by omega) k2⟩
          rw [g1, some_bind', if_pos (show (0 : Int32) ≤ 0 by decide), q_starts, some_bind', k1]
      · rw [e1, some_bind', if_pos rfl, q_found1, some_bind']
        refine ⟨_, _, _, rfl, ?_, dk_I_fn (f := 1) (by omega) hI⟩
        rw [e2 1 t a (by decide) ht ha, some_bind', if_neg n3neg]
    · simp only [if_neg h4, i_10, if_false]
      refine ⟨_, _, _, rfl, ?_, dk_I_up hI⟩
      rw [q_need_bad (Or.inl rfl), some_bind', if_neg n1neg]
  · rw [q_nG_f hg, some_bind', if_neg (show ¬ (1 : Int32) = 0 by decide)]
    refine ⟨_, _, _, rfl, ?_, dk_I_up hI⟩
    rw [q_need_bad (Or.inr hg), some_bind', if_neg n1neg]
