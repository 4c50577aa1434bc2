/-! kinds; lines, begins -/
def k_of (kd x : Int32) : Bool := decide (x = 0 ∨ x = kd ∨ (x = 1 ∧ kd = 6) ∨ (x = 2 ∧ kd = 7))
def k_b (b : Bool) : Int32 := if b = true then 1 else 0
theorem q_isOf (x : Int32) (S : dk_S) : fX7_isOf x S = some (k_b (k_of (S.1 16 1) x), S) := by
  unfold fX7_isOf k_b k_of
  simp only [dk_lt_eq, decide_eq_true_eq]
  generalize S.1 16 1 = kd
  by_cases h0 : x = 0
  · rw [if_pos h0, if_pos (Or.inl h0)]
  · by_cases h1 : x = kd
    · rw [if_neg h0, if_pos h1, if_pos (Or.inr (Or.inl h1))]
    · rw [if_neg h0, if_neg h1]
      by_cases h2 : x = 1
      · subst h2
        rw [if_pos rfl]
        by_cases h3 : kd = 6
        · rw [if_pos h3, if_pos (Or.inr (Or.inr (Or.inl ⟨rfl, h3⟩)))]
        · rw [if_neg h3, if_neg (by decide), if_neg]
          rintro (h | h | ⟨-, h⟩ | ⟨h, -⟩)
          · exact absurd h (by decide)
          · exact h1 h
          · exact h3 h
          · exact absurd h (by decide)
      · rw [if_neg h2]
        by_cases h4 : x = 2
        · subst h4
          rw [if_pos rfl]
          by_cases h3 : kd = 7
          · rw [if_pos h3, if_pos (Or.inr (Or.inr (Or.inr ⟨rfl, h3⟩)))]
          · rw [if_neg h3, if_neg]
            rintro (h | h | ⟨h, -⟩ | ⟨-, h⟩)
            · exact absurd h (by decide)
            · exact h1 h
            · exact absurd h (by decide)
            · exact h3 h
        · rw [if_neg h4, if_neg]
          rintro (h | h | ⟨h, -⟩ | ⟨h, -⟩)
          · exact h0 h
          · exact h1 h
          · exact h2 h
          · exact h4 h
theorem q_misOf (kd x : Int32) (S : dk_S) : fX9_isOf kd x S = some (k_b (k_of kd x), S) := by
  have h := q_isOf x (dk_si S 16 1 kd)
  unfold fX7_isOf at h
  unfold fX9_isOf k_b k_of
  simp only [dk_lt_eq, decide_eq_true_eq]
  by_cases h0 : x = 0
  · rw [if_pos h0, if_pos (Or.inl h0)]
  · by_cases h1 : kd = x
    · rw [if_neg h0, if_pos h1, if_pos (Or.inr (Or.inl h1.symm))]
    · rw [if_neg h0, if_neg h1]
      by_cases h2 : x = 1
      · subst h2
        rw [if_pos rfl]
        by_cases h3 : kd = 6
        · rw [if_pos h3, if_pos (Or.inr (Or.inr (Or.inl ⟨rfl, h3⟩)))]
        · rw [if_neg h3, if_neg (by decide), if_neg]
          rintro (h | h | ⟨-, h⟩ | ⟨h, -⟩)
          · exact absurd h (by decide)
          · exact h1 h.symm
          · exact h3 h
          · exact absurd h (by decide)
      · rw [if_neg h2]
        by_cases h4 : x = 2
        · subst h4
          rw [if_pos rfl]
          by_cases h3 : kd = 7
          · rw [if_pos h3, if_pos (Or.inr (Or.inr (Or.inr ⟨rfl, h3⟩)))]
          · rw [if_neg h3, if_neg]
            rintro (h | h | ⟨h, -⟩ | ⟨-, h⟩)
            · exact absurd h (by decide)
            · exact h1 h.symm
            · exact absurd h (by decide)
            · exact h3 h
        · rw [if_neg h4, if_neg]
          rintro (h | h | ⟨h, -⟩ | ⟨h, -⟩)
          · exact h0 h
          · exact h1 h.symm
          · exact h2 h
          · exact h4 h
theorem k_b_bool (b : Bool) : decide (k_b b = 0 ∨ k_b b = 1) = true := by cases b <;> decide
theorem k_b_t : ¬ k_b true = 0 := by decide
theorem k_b_f : k_b false = 0 := by decide
/-- it walks well -/
noncomputable def g_w (P : p_P) (a : Nat) : Bool := k_of (g_K P a).1 1
theorem q_well {S : dk_S} {sz : Nat → Int32} {rb : Int32} {B : Int} {a : Nat} (sl : Int32) (hT : c_T sz rb S) (hl : (20 + 8 * sz 0).toInt ≤ 99) (hB : c_ok B S) (hB2 : B ≤ 8000000000) (ha : a ≤ 99) :
    ∃ T, fX7_walksWell sl (nI a) S = some (k_b (g_w (c_P sz sl rb) a), T) ∧ c_T sz rb T ∧ c_sm S T ∧ c_ok (B + 401) T ∧ T.1 18 = S.1 18 ∧ (g_w (c_P sz sl rb) a = true → T.1 16 3 = (g_K (c_P sz sl rb) a).2.2.1) := by
  obtain ⟨T, f1, f2, f3, f4, f0, f5, f6, f7, -⟩ := q_find2 sl hT hl hB hB2 ha
  refine ⟨T, ?_, f2, f3, f4, f0, fun h => ?_⟩
  · unfold fX7_walksWell
    rw [f1, some_bind', q_isOf, some_bind', k_b_bool, dk_gd_t, f5]
    rfl
  · unfold g_w k_of at h
    have h' := of_decide_eq_true h
    refine (f7 ?_).1
    rcases h' with h | h | ⟨-, h⟩ | ⟨h, -⟩
    · exact absurd h (by decide)
    · exact Or.inl h.symm
    · exact Or.inr (Or.inl h)
    · exact absurd h (by decide)
theorem q_mwell {S : dk_S} {sz : Nat → Int32} {rb sl p0 p1 : Int32} {a : Nat} (hT : m_T sz rb sl p0 p1 S) (hok : a_ok sz) (ha : a ≤ 99) :
    ∃ T, fX9_walksWell (nI a) S = some (k_b (g_w (a_P sz sl rb p0 p1) a), T) ∧ m_T sz rb sl p0 p1 T ∧ m_sm S T ∧ (∀ q, 101 ≤ q → T.1 q = S.1 q) ∧ T.1 95 = S.1 95 ∧ (g_w (a_P sz sl rb p0 p1) a = true → T.1 82 36 = (g_K (a_P sz sl rb p0 p1) a).2.2.1) := by
  obtain ⟨T, f1, f2, f3, f4, f5, -, -, f8⟩ := q_going2 hT hok ha
  refine ⟨T, ?_, f2, f3, f4, f5, fun h => ?_⟩
  · unfold fX9_walksWell
    rw [f1, some_bind', q_misOf, some_bind', k_b_bool, dk_gd_t]
    rfl
  · unfold g_w k_of at h
    have h' := of_decide_eq_true h
    refine (f8 ?_).1
    rcases h' with h | h | ⟨-, h⟩ | ⟨h, -⟩
    · exact absurd h (by decide)
    · exact Or.inl h.symm
    · exact Or.inr (Or.inl h)
    · exact absurd h (by decide)
/-- how many, and the first, among s .. s + k - 1 -/
def n_c (f : Nat → Bool) : Nat → Nat → Nat
  | 0, _ => 0
  | k + 1, s => (if f s = true then 1 else 0) + n_c f k (s + 1)
def n_f (f : Nat → Bool) : Nat → Nat → Int32
  | 0, _ => -9
  | k + 1, s => if f s = true then nI s else n_f f k (s + 1)
theorem n_c_le (f : Nat → Bool) : ∀ k s, n_c f k s ≤ k := by
  intro k
  induction k with
  | zero => intro s; exact Nat.le_refl 0
  | succ k ih =>
    intro s
    rw [n_c]
    have := ih (s + 1)
    by_cases h : f s = true
    · rw [if_pos h]; omega
    · rw [if_neg h]; omega
theorem e_lines {S0 : dk_S} {sz : Nat → Int32} {rb x4 : Int32} {B : Int} {a : Nat} (hl : (20 + 8 * sz 0).toInt ≤ 99) (hB2 : B ≤ 7000000000) (ha : a ≤ 99) : ∀ (m s : Nat) (S : dk_S), s ≤ 100 → s < m → c_T sz rb S → c_sm S0 S → c_ok (B + 401 * (100 - s : Nat)) S →
    ∃ T, fX8_lines_L48 (nI a) x4 m (nI (n_c (fun t => k_of (g_K (c_P sz (nI t) rb) a).1 x4) (100 - s) s)) (n_f (fun t => k_of (g_K (c_P sz (nI t) rb) a).1 x4) (100 - s) s) (nI s + (-1)) S = some (nI (n_c (fun t => k_of (g_K (c_P sz (nI t) rb) a).1 x4) 100 0), dk_sr T 0 (upd (T.1 0) 12 (n_f (fun t => k_of (g_K (c_P sz (nI t) rb) a).1 x4) 100 0))) ∧ c_sm S0 T ∧ c_ok (B + 40100) T := by
  intro m
  induction m with
  | zero => intro s S h1 h2; omega
  | succ m ih =>
    intro s S h1 h2 hT hsm hok
    rw [fX8_lines_L48]
    cases s with
    | zero =>
      rw [if_pos (by decide), q_tell, some_bind']
      exact ⟨S, rfl, hsm, hok.up (by omega)⟩
    | succ s =>
      rw [show nI (s + 1) + (-1) = nI s by rw [← nI_pred s, Int32.sub_eq_add_neg], if_neg (nI_pos (by omega))]
      obtain ⟨T, f1, f2, f3, f4, -, f5, -⟩ := q_find2 (nI s) hT hl hok (by omega) ha
      rw [f1, some_bind', q_isOf, some_bind', dk_lt_eq, f5]
      have hk : 100 - s = (100 - (s + 1)) + 1 := by omega
      obtain ⟨T2, g1, g2, g3⟩ := ih s T (by omega) (by omega) f2 (hsm.tr f3) (f4.up (by omega))
      refine ⟨T2, ?_, g2, g3⟩
      rw [← g1, hk, n_c, n_f]
      dsimp only
      cases hb : k_of (g_K (c_P sz (nI s) rb) a).1 x4 with
      | true =>
        rw [if_neg k_b_t, if_pos rfl, if_pos rfl, nI_1, Nat.add_comm 1]
      | false =>
        rw [if_pos k_b_f, if_neg (show ¬ (false = true) by decide), if_neg (show ¬ (false = true) by decide), Nat.zero_add]
theorem e_mlines {S0 : dk_S} {sz : Nat → Int32} {rb x4 : Int32} {a : Nat} (hok : a_ok sz) (ha : a ≤ 99) : ∀ (m s c : Nat) (fi sl : Int32) (S : dk_S), s ≤ 100 → 100 - s < m → c ≤ s → (c = 0 → fi = -9) → m_T sz rb sl 0 0 S → m_sm S0 S →
    ∃ T, fX9_lines_L36 (nI a) x4 m fi (nI c) (nI s) S = some (nI (c + n_c (fun t => k_of (g_K (c_P sz (nI t) rb) a).1 x4) (100 - s) s), dk_sr T 82 (upd (T.1 82) 2 (if c = 0 then n_f (fun t => k_of (g_K (c_P sz (nI t) rb) a).1 x4) (100 - s) s else fi))) ∧ m_sm S0 T := by
  intro m
  induction m with
  | zero => intro s c fi sl S h1 h2; omega
  | succ m ih =>
    intro s c fi sl S h1 h2 hc hfi hT hsm
    rw [fX9_lines_L36]
    by_cases hs : s = 100
    · subst hs
      rw [if_pos (show (99 : Int32) < nI 100 from by decide), q_tells, some_bind']
      refine ⟨S, ?_, hsm⟩
      show _ = some (nI (c + 0), dk_sr S 82 (upd (S.1 82) 2 (if c = 0 then -9 else fi)))
      by_cases h0 : c = 0
      · rw [if_pos h0, hfi h0]; rfl
      · rw [if_neg h0]; rfl
    · rw [if_neg (show ¬ (99 : Int32) < nI s from fun q => by have := (nI_ltI (a := 99) (by omega) (by omega)).mp q; omega), dk_lt_eq]
      have hT2 : m_T sz rb (nI s) 0 0 (dk_si S 82 21 (nI s)) := by
        obtain ⟨t1, t2, t3, t4, t5, t6⟩ := hT
        refine ⟨fun j hj => ?_, ?_, ?_, ?_, ?_, ?_⟩
        · rw [dk_si_eq, dk_sr_ne _ _ (by omega)]; exact t1 j hj
        · rw [dk_si_eq, dk_sr_same, upd_ne _ _ (by omega)]; exact t2
        · rw [dk_si_eq, dk_sr_same, upd_same]
        · rw [dk_si_eq, dk_sr_ne _ _ (by omega)]; exact t4
        · rw [dk_si_eq, dk_sr_ne _ _ (by omega)]; exact t5
        · rw [dk_si_eq, dk_sr_same, upd_ne _ _ (by omega)]; exact t6
      have hsm2 : m_sm S0 (dk_si S 82 21 (nI s)) := hsm.tr ⟨fun q _ h => by rw [dk_si_eq, dk_sr_ne _ _ h], rfl, fun j hj => by rw [dk_si_eq, dk_sr_same, upd_ne _ _ (by omega)]⟩
      obtain ⟨T, f1, f2, f3, -⟩ := q_going2 hT2 hok ha
      rw [← a_P_c hok] at f1
      rw [f1, some_bind', q_misOf, some_bind', dk_lt_eq]
      have hk : 100 - s = (100 - (s + 1)) + 1 := by omega
      rw [hk, n_c, n_f]
      dsimp only
      cases hb : k_of (g_K (c_P sz (nI s) rb) a).1 x4 with
      | true =>
        obtain ⟨T2, g1, g2⟩ := ih (s + 1) (c + 1) (if nI c = 0 then nI s else fi) (nI s) T (by omega) (by omega) (by omega) (fun h => by omega) f2 (hsm2.tr f3)
        refine ⟨T2, ?_, g2⟩
        have hcc : (if nI c = 0 then nI s else fi) = (if c = 0 then nI s else fi) := by
          by_cases h0 : c = 0
          · rw [if_pos h0, if_pos (by rw [h0]; rfl)]
          · rw [if_neg h0, if_neg (nI_ne0 (by omega) (by omega))]
        rw [if_neg k_b_t, dk_lt_eq, nI_1, nI_1, g1, if_pos rfl, if_pos rfl, if_neg (by omega), Nat.add_assoc, hcc]
      | false =>
        obtain ⟨T2, g1, g2⟩ := ih (s + 1) c fi (nI s) T (by omega) (by omega) (by omega) hfi f2 (hsm2.tr f3)
        refine ⟨T2, ?_, g2⟩
        rw [if_pos k_b_f, nI_1, g1, if_neg (show ¬ (false = true) by decide), if_neg (show ¬ (false = true) by decide), Nat.zero_add]
theorem pr_lines (a1 : Int32) (a2 : Int32) (a3 : Int32) (a4 : Int32) {n : Nat} {S : dk_S} (hn : n < 512) (hI : dk_I n S) : ∃ (r : Int32) (S1 S2 : dk_S), fX8_lines a1 a2 a3 a4 S = some (r, S1) ∧ fX9_lines a1 a2 a3 a4 S1 = some (r, S2) ∧ dk_I (n + 1) S2 := by
  unfold fX8_lines fX9_lines
  simp only [q_isOutside, q_in, some_bind']
  by_cases hg : h_g a1 a2 0 a3
  · rw [q_nP_t hg, some_bind', if_pos rfl]
    by_cases h4 : 0 ≤ a4 ∧ a4 ≤ 7
    · simp only [if_pos h4, if_true]
      obtain ⟨k, l, t, a, hk, hl, ht, ha, rfl, rfl, e0, rfl⟩ := h_g_of hg
      rcases h_two hI hk hl with ⟨S1, sz, rb, e1, e2, e3, e4, e5, -, -, -, e8⟩ | ⟨e1, e2⟩
      · rw [e1, some_bind', if_neg (show ¬ (1 : Int32) = 0 by decide)]
        have hok := a_ok_sz e5
        obtain ⟨T, f1, f2, f3⟩ := e_lines (S0 := S) (x4 := a4) (B := 10000000 * (n : Int)) hok.2 (by omega) ha dk_FU 100 S1 (by omega) (by have := dk_FU_ge; omega) e2 e3 (((c_ok.of hI.2.2).c (by rw [e4]) (by rw [e4])).up (by omega))
        have f1' : fX8_lines_L48 (nI a) a4 dk_FU 0 (-9) 99 S1 = _ := f1
        rw [f1']
        obtain ⟨S2, g1, g2, g3⟩ := e8 (dk_sr T 0 (upd (T.1 0) 12 (n_f (fun t => k_of (g_K (c_P sz (nI t) rb) a).1 a4) 100 0))) 1 0 a (by decide) (by omega) ha (m_hi f2)
        obtain ⟨T2, k1, k2⟩ := e_mlines (S0 := dk_sr T 0 (upd (T.1 0) 12 (n_f (fun t => k_of (g_K (c_P sz (nI t) rb) a).1 a4) 100 0))) (x4 := a4) hok ha dk_FU 0 0 (-9) (nI 0) S2 (by omega) (by have := dk_FU_ge; omega) (by omega) (fun _ => rfl) g2 g3
        refine ⟨_, _, _, rfl, ?_, an_tell hI f2 f3 (by omega) k2⟩
        rw [nI_0] at g1 k1
        rw [g1, some_bind', if_pos (show (0 : Int32) ≤ 0 by decide), k1, Nat.zero_add, if_pos rfl]
      · rw [e1, some_bind', if_pos rfl, q_found1, some_bind']
        refine ⟨_, _, _, rfl, ?_, dk_I_fn (f := 1) (by omega) hI⟩
        have h2 := e2 1 0 a (by decide) (by omega) ha
        rw [nI_0] at h2
        rw [h2, some_bind', if_neg n3neg]
    · simp only [if_neg h4, i_10, if_false]
      refine ⟨_, _, _, rfl, ?_, dk_I_up hI⟩
      rw [q_need_bad (Or.inl rfl), some_bind', if_neg n1neg]
  · rw [q_nP_f hg, some_bind', if_neg (show ¬ (1 : Int32) = 0 by decide)]
    refine ⟨_, _, _, rfl, ?_, dk_I_up hI⟩
    rw [q_need_bad (Or.inr hg), some_bind', if_neg n1neg]
