/-! spans; part, wide -/
theorem c_T.set {sz : Nat → Int32} {rb : Int32} {S : dk_S} (h : c_T sz rb S) (j : Nat) (v : Int32) : c_T (upd sz j v) rb (dk_si S 19 j v) := by
  obtain ⟨t1, t2, t3⟩ := h
  refine ⟨fun i hi => ?_, ?_, fun i hi => ?_⟩
  · rw [dk_si_eq, dk_sr_same, upd_at, upd_at, t1 i hi]
  · rw [dk_si_eq, dk_sr_ne _ _ (by omega)]; exact t2
  · rw [dk_si_eq, dk_sr_ne _ _ (by omega)]; exact t3 i hi
theorem m_T.set {sz : Nat → Int32} {rb sl p0 p1 : Int32} {S : dk_S} (h : m_T sz rb sl p0 p1 S) (j : Nat) (v : Int32) : m_T (upd sz j v) rb sl p0 p1 (dk_si S 95 j v) := by
  obtain ⟨t1, t2, t3, t4, t5, t6⟩ := h
  refine ⟨fun i hi => ?_, ?_, ?_, ?_, ?_, ?_⟩
  · rw [dk_si_eq, dk_sr_same, upd_at, upd_at, t1 i hi]
  · rw [dk_si_eq, dk_sr_ne _ _ (by omega)]; exact t2
  · rw [dk_si_eq, dk_sr_ne _ _ (by omega)]; exact t3
  · rw [dk_si_eq, dk_sr_ne _ _ (by omega)]; exact t4
  · rw [dk_si_eq, dk_sr_ne _ _ (by omega)]; exact t5
  · rw [dk_si_eq, dk_sr_ne _ _ (by omega)]; exact t6
theorem m_T.sl {sz : Nat → Int32} {rb sl p0 p1 : Int32} {S : dk_S} (h : m_T sz rb sl p0 p1 S) (v : Int32) : m_T sz rb v p0 p1 (dk_si S 82 21 v) := by
  obtain ⟨t1, t2, t3, t4, t5, t6⟩ := h
  refine ⟨fun j hj => ?_, ?_, ?_, ?_, ?_, ?_⟩
  · rw [dk_si_eq, dk_sr_ne _ _ (by omega)]; exact t1 j hj
  · rw [dk_si_eq, dk_sr_same, upd_ne _ _ (by omega)]; exact t2
  · rw [dk_si_eq, dk_sr_same, upd_same]
  · rw [dk_si_eq, dk_sr_ne _ _ (by omega)]; exact t4
  · rw [dk_si_eq, dk_sr_ne _ _ (by omega)]; exact t5
  · rw [dk_si_eq, dk_sr_same, upd_ne _ _ (by omega)]; exact t6
theorem m_T.p0 {sz : Nat → Int32} {rb sl p0 p1 : Int32} {S : dk_S} (h : m_T sz rb sl p0 p1 S) (v : Int32) : m_T sz rb sl v p1 (dk_si S 96 0 v) := by
  obtain ⟨t1, t2, t3, t4, t5, t6⟩ := h
  refine ⟨fun j hj => ?_, ?_, ?_, ?_, ?_, ?_⟩
  · rw [dk_si_eq, dk_sr_ne _ _ (by omega)]; exact t1 j hj
  · rw [dk_si_eq, dk_sr_ne _ _ (by omega)]; exact t2
  · rw [dk_si_eq, dk_sr_ne _ _ (by omega)]; exact t3
  · rw [dk_si_eq, dk_sr_same, upd_same]
  · rw [dk_si_eq, dk_sr_same, upd_ne _ _ (by omega)]; exact t5
  · rw [dk_si_eq, dk_sr_ne _ _ (by omega)]; exact t6
theorem m_T.p1 {sz : Nat → Int32} {rb sl p0 p1 : Int32} {S : dk_S} (h : m_T sz rb sl p0 p1 S) (v : Int32) : m_T sz rb sl p0 v (dk_si S 96 1 v) := by
  obtain ⟨t1, t2, t3, t4, t5, t6⟩ := h
  refine ⟨fun j hj => ?_, ?_, ?_, ?_, ?_, ?_⟩
  · rw [dk_si_eq, dk_sr_ne _ _ (by omega)]; exact t1 j hj
  · rw [dk_si_eq, dk_sr_ne _ _ (by omega)]; exact t2
  · rw [dk_si_eq, dk_sr_ne _ _ (by omega)]; exact t3
  · rw [dk_si_eq, dk_sr_same, upd_ne _ _ (by omega)]; exact t4
  · rw [dk_si_eq, dk_sr_same, upd_same]
  · rw [dk_si_eq, dk_sr_ne _ _ (by omega)]; exact t6
theorem c_sm.si {S : dk_S} {q j : Nat} {v : Int32} (h : 16 ≤ q ∧ q ≤ 28) : c_sm S (dk_si S q j v) := ⟨fun p hp => by rw [dk_si_eq, dk_sr_ne _ _ (by omega)], fun _ _ _ => rfl⟩
theorem m_sm.si {S : dk_S} {q j : Nat} {v : Int32} (h : q = 95 ∨ q = 96) : m_sm S (dk_si S q j v) := ⟨fun p hp _ => by rw [dk_si_eq, dk_sr_ne _ _ (by omega)], rfl, fun i hi => by rw [dk_si_eq, dk_sr_ne _ _ (by omega)]⟩
theorem m_sm.s82 {S : dk_S} {j : Nat} {v : Int32} (h : 20 ≤ j) : m_sm S (dk_si S 82 j v) := ⟨fun p _ hp => by rw [dk_si_eq, dk_sr_ne _ _ hp], rfl, fun i hi => by rw [dk_si_eq, dk_sr_same, upd_ne _ _ (by omega)]⟩
theorem c_ok.si {B : Int} {S : dk_S} {q j : Nat} {v : Int32} (h : c_ok B S) : c_ok B (dk_si S q j v) := h.c rfl rfl
theorem i_sz.set {sz : Nat → Int32} (h : i_sz sz) {j v : Nat} (hv : 1 ≤ v ∧ v ≤ 9) : i_sz (upd sz j (nI v)) := by
  obtain ⟨a, b, c, d, x, y, e0, e1, e2, e3, e4, e5, h0, h1, h2, h3, h4, h5⟩ := h
  refine ⟨if 0 = j then v else a, if 1 = j then v else b, if 2 = j then v else c, if 3 = j then v else d, if 4 = j then v else x, if 5 = j then v else y, ?_, ?_, ?_, ?_, ?_, ?_, ?_, ?_, ?_, ?_, ?_, ?_⟩
  · rw [upd_at, e0]; split <;> rfl
  · rw [upd_at, e1]; split <;> rfl
  · rw [upd_at, e2]; split <;> rfl
  · rw [upd_at, e3]; split <;> rfl
  · rw [upd_at, e4]; split <;> rfl
  · rw [upd_at, e5]; split <;> rfl
  · split <;> omega
  · split <;> omega
  · split <;> omega
  · split <;> omega
  · split <;> omega
  · split <;> omega
noncomputable def g_sp (sz : Nat → Int32) (rb : Int32) (a : Nat) : Nat := n_c (fun t => g_w (c_P sz (nI t) rb) a) 100 0
theorem g_sp_le (sz : Nat → Int32) (rb : Int32) (a : Nat) : g_sp sz rb a ≤ 100 := n_c_le _ _ _
theorem k_b_if (b : Bool) : (if k_b b = 0 then (0 : Int32) else 1) = nI (if b = true then 1 else 0) := by cases b <;> rfl
theorem e_span {S0 : dk_S} {sz : Nat → Int32} {rb : Int32} {B : Int} {a : Nat} (hl : (20 + 8 * sz 0).toInt ≤ 99) (hB2 : B ≤ 7000000000) (ha : a ≤ 99) : ∀ (m s c : Nat) (S : dk_S), s ≤ 100 → 100 - s < m → c_T sz rb S → c_sm S0 S → S.1 18 = S0.1 18 → c_ok (B + 401 * s) S →
    ∃ T, fX7_span_L4 (nI a) m (nI c) (nI s) S = some (nI (c + n_c (fun t => g_w (c_P sz (nI t) rb) a) (100 - s) s), T) ∧ c_T sz rb T ∧ c_sm S0 T ∧ T.1 18 = S0.1 18 ∧ c_ok (B + 40100) T := by
  intro m
  induction m with
  | zero => intro s c S h1 h2; omega
  | succ m ih =>
    intro s c S h1 h2 hT hsm h18 hok
    rw [fX7_span_L4]
    by_cases hs : s = 100
    · subst hs
      rw [if_pos (show (100 : Int32) ≤ nI 100 from by decide)]
      exact ⟨S, rfl, hT, hsm, h18, hok.up (by omega)⟩
    · rw [if_neg (show ¬ (100 : Int32) ≤ nI s from fun q => by have := (nI_leI (a := 100) (by omega) (by omega)).mp q; omega)]
      obtain ⟨T, f1, f2, f3, f4, f5, -⟩ := q_well (nI s) hT hl hok (by omega) ha
      rw [f1, some_bind', dk_lt_eq, dk_lt_eq, k_b_if, nI_add, nI_1]
      have hk : 100 - s = (100 - (s + 1)) + 1 := by omega
      obtain ⟨T2, g1, g2, g3, g4, g5⟩ := ih (s + 1) (c + (if g_w (c_P sz (nI s) rb) a = true then 1 else 0)) T (by omega) (by omega) f2 (hsm.tr f3) (f5.trans h18) (f4.up (by omega))
      refine ⟨T2, ?_, g2, g3, g4, g5⟩
      rw [g1, hk, n_c, Nat.add_assoc]
theorem q_span {S : dk_S} {sz : Nat → Int32} {rb : Int32} {B : Int} {a : Nat} (hT : c_T sz rb S) (hl : (20 + 8 * sz 0).toInt ≤ 99) (hB : c_ok B S) (hB2 : B ≤ 7000000000) (ha : a ≤ 99) :
    ∃ T, fX7_span (nI a) S = some (nI (g_sp sz rb a), T) ∧ c_T sz rb T ∧ c_sm S T ∧ T.1 18 = S.1 18 ∧ c_ok (B + 40100) T := by
  obtain ⟨T, g1, g2⟩ := e_span (S0 := S) (B := B) hl hB2 ha dk_FU 0 0 S (by omega) (by have := dk_FU_ge; omega) hT (c_sm.rf S) rfl (hB.up (by omega))
  rw [Nat.zero_add] at g1
  exact ⟨T, g1, g2⟩
theorem e_mspan {S0 : dk_S} {sz : Nat → Int32} {rb : Int32} {a : Nat} (hok : a_ok sz) (ha : a ≤ 99) : ∀ (m s c : Nat) (sl : Int32) (S : dk_S), s ≤ 100 → 100 - s < m → m_T sz rb sl 0 0 S → m_sm S0 S →
    ∃ T sl2, fX9_span_L4 (nI a) m (nI c) (nI s) S = some (nI (c + n_c (fun t => g_w (c_P sz (nI t) rb) a) (100 - s) s), T) ∧ m_T sz rb sl2 0 0 T ∧ m_sm S0 T := by
  intro m
  induction m with
  | zero => intro s c sl S h1 h2; omega
  | succ m ih =>
    intro s c sl S h1 h2 hT hsm
    rw [fX9_span_L4]
    by_cases hs : s = 100
    · subst hs
      rw [if_pos (show (99 : Int32) < nI 100 from by decide)]
      exact ⟨S, sl, rfl, hT, hsm⟩
    · rw [if_neg (show ¬ (99 : Int32) < nI s from fun q => by have := (nI_ltI (a := 99) (by omega) (by omega)).mp q; omega), dk_lt_eq]
      obtain ⟨T, f1, f2, f3, -⟩ := q_mwell (a := a) (hT.sl (nI s)) hok ha
      rw [← a_P_c hok] at f1
      rw [f1, some_bind', dk_lt_eq, dk_lt_eq, k_b_if, nI_add, nI_1]
      have hk : 100 - s = (100 - (s + 1)) + 1 := by omega
      obtain ⟨T2, sl2, g1, g2, g3⟩ := ih (s + 1) (c + (if g_w (c_P sz (nI s) rb) a = true then 1 else 0)) (nI s) T (by omega) (by omega) f2 ((hsm.tr (m_sm.s82 (by omega))).tr f3)
      refine ⟨T2, sl2, ?_, g2, g3⟩
      rw [g1, hk, n_c, Nat.add_assoc]
theorem q_mspan {S : dk_S} {sz : Nat → Int32} {rb sl : Int32} {a : Nat} (hT : m_T sz rb sl 0 0 S) (hok : a_ok sz) (ha : a ≤ 99) :
    ∃ T sl2, fX9_span (nI a) S = some (nI (g_sp sz rb a), T) ∧ m_T sz rb sl2 0 0 T ∧ m_sm S T := by
  obtain ⟨T, sl2, g1, g2⟩ := e_mspan (S0 := S) hok ha dk_FU 0 0 sl S (by omega) (by have := dk_FU_ge; omega) hT (m_sm.rf S)
  rw [Nat.zero_add] at g1
  exact ⟨T, sl2, g1, g2⟩
theorem pr_part (a1 : Int32) (a2 : Int32) (a3 : Int32) (a4 : Int32) {n : Nat} {S : dk_S} (hn : n < 512) (hI : dk_I n S) : ∃ (r : Int32) (S1 S2 : dk_S), fX8_part a1 a2 a3 a4 S = some (r, S1) ∧ fX9_part a1 a2 a3 a4 S1 = some (r, S2) ∧ dk_I (n + 1) S2 := by
  unfold fX8_part fX9_part
  simp only [q_isOutside, q_in, some_bind']
  by_cases hg : h_g a1 a2 0 a3
  · rw [q_nP_t hg, some_bind', if_pos rfl]
    by_cases h4 : 0 ≤ a4 ∧ a4 ≤ 3
    · simp only [if_pos h4, if_true]
      obtain ⟨j, hj, rfl⟩ := dI_of (n := 3) (by omega) h4.1 h4.2
      obtain ⟨k, l, t, a, hk, hl, ht, ha, rfl, rfl, e0, rfl⟩ := h_g_of hg
      rcases h_two hI hk hl with ⟨S1, sz, rb, e1, e2, e3, e4, e5, -, -, -, e8⟩ | ⟨e1, e2⟩
      · rw [e1, some_bind', if_neg (show ¬ (1 : Int32) = 0 by decide)]
        have hok := a_ok_sz e5
        have e5' : i_sz (upd sz j 1) := e5.set (v := 1) (by omega)
        have hok' := a_ok_sz e5'
        obtain ⟨T, f1, f2, f3, -, f5⟩ := q_span e2 hok.2 (((c_ok.of hI.2.2).c (by rw [e4]) (by rw [e4]))) (by omega) ha
        obtain ⟨U, u1, u2, u3, -, u5⟩ := q_span (f2.set j 1) hok'.2 f5.si (by omega) ha
        rw [f1, some_bind', dI_in (by omega) (by omega), dk_gd_t, dk_lt_eq, nI_clamp (by omega), u1, some_bind', q_tell, some_bind']
        have hsm := ((e3.tr f3).tr (c_sm.si (q := 19) (j := j) (v := 1) (by omega))).tr u3
        obtain ⟨S2, g1, g2, g3⟩ := e8 (dk_sr U 0 (upd (U.1 0) 12 (nI (g_sp (upd sz j 1) rb a)))) 1 0 a (by decide) (by omega) ha (m_hi hsm)
        obtain ⟨V, sl2, v1, v2, v3⟩ := q_mspan g2 hok ha
        obtain ⟨W, sl3, w1, w2, w3⟩ := q_mspan (v2.set j 1) hok' ha
        refine ⟨_, _, _, rfl, ?_, an_tell hI hsm u5 (by omega) (((g3.tr v3).tr (m_sm.si (q := 95) (j := j) (v := 1) (by omega))).tr w3)⟩
        rw [nI_0] at g1
        rw [g1, some_bind', if_pos (show (0 : Int32) ≤ 0 by decide), v1, some_bind', dk_gd_t, dk_lt_eq, w1, some_bind', q_tells, some_bind']
      · rw [e1, some_bind', if_pos rfl, q_found1, some_bind']
        refine ⟨_, _, _, rfl, ?_, dk_I_fn (f := 1) (by omega) hI⟩
        have h2 := e2 1 0 a (by decide) (by omega) ha
        rw [nI_0] at h2
        rw [h2, some_bind', if_neg n3neg]
    · simp only [if_neg h4, i_10, if_false]
      refine ⟨_, _, _, rfl, ?_, dk_I_up hI⟩
      rw [q_need_bad (Or.inl rfl), some_bind', if_neg n1neg]
  · rw [q_nP_f hg, some_bind', if_neg (show ¬ (1 : Int32) = 0 by decide)]
    refine ⟨_, _, _, rfl, ?_, dk_I_up hI⟩
    rw [q_need_bad (Or.inr hg), some_bind', if_neg n1neg]
