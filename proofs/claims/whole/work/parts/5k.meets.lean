/-! meets; a walk of no bumps, step by step -/
def t_s (P : p_P) (p0 : Int32) : Nat → Int32 × Int32 × Int32
  | 0 => (p0, 0, 0)
  | n + 1 => if (t_s P p0 n).2.2 = 0 then p_S P 0 (t_s P p0 n).1 (t_s P p0 n).2.1 else t_s P p0 n
theorem t_s_S {P : p_P} {p0 : Int32} {n : Nat} (h : (t_s P p0 n).2.2 = 0) : t_s P p0 (n + 1) = p_S P 0 (t_s P p0 n).1 (t_s P p0 n).2.1 := by rw [t_s, if_pos h]
theorem t_s_E {P : p_P} {p0 : Int32} {n : Nat} (h : ¬ (t_s P p0 n).2.2 = 0) : t_s P p0 (n + 1) = t_s P p0 n := by rw [t_s, if_neg h]
theorem t_s_f (P : p_P) (p0 : Int32) : ∀ n, (t_s P p0 n).2.1 = 0 ∨ (t_s P p0 n).2.1 = 1 := by
  intro n
  induction n with
  | zero => exact Or.inl rfl
  | succ n ih =>
    by_cases h : (t_s P p0 n).2.2 = 0
    · rw [t_s_S h]; exact p_S_f _ _ _ _ ih
    · rw [t_s_E h]; exact ih
theorem t_s_p {P : p_P} (hl : P.2.2.2.2.toInt ≤ 99) {a : Nat} (ha : a ≤ 99) : ∀ n, (t_s P (nI a) n).2.2 = 0 → ∃ b, b ≤ 99 ∧ (t_s P (nI a) n).1 = nI b := by
  intro n
  induction n with
  | zero => intro _; exact ⟨a, ha, rfl⟩
  | succ n ih =>
    intro h
    by_cases h0 : (t_s P (nI a) n).2.2 = 0
    · rw [t_s_S h0] at h ⊢
      exact (p_S_ok hl _ _ _ (t_s_f _ _ _) h).1
    · rw [t_s_E h0] at h; exact absurd h h0
def e_mt (P Q : p_P) (p0 : Int32) : Nat → Nat → Int32
  | 0, _ => -9
  | k + 1, n => if (t_s P p0 (n + 1)).2.2 = 0 then (if (t_s Q p0 (n + 1)).2.2 = 0 then (if (t_s P p0 (n + 1)).1 = (t_s Q p0 (n + 1)).1 then nI (n + 1) else e_mt P Q p0 k (n + 1)) else -9) else -9
def e_O (Q : p_P) (p0 : Int32) (j : Nat) : Int32 := if (t_s Q p0 j).2.2 = 0 then (t_s Q p0 j).1 else -9
def e_mm (P Q : p_P) (p0 : Int32) : Nat → Nat → Int32
  | 0, _ => -9
  | k + 1, n => if (t_s P p0 n).2.2 = 0 then (if (t_s P p0 (n + 1)).2.2 = 0 then (if (t_s P p0 (n + 1)).1 = e_O Q p0 (n + 1) then nI (n + 1) else e_mm P Q p0 k (n + 1)) else e_mm P Q p0 k (n + 1)) else -9
theorem e_mm_9 {P Q : p_P} (hl : P.2.2.2.2.toInt ≤ 99) {a : Nat} (ha : a ≤ 99) : ∀ k n, ¬ (t_s Q (nI a) n).2.2 = 0 → e_mm P Q (nI a) k n = -9 := by
  intro k
  induction k with
  | zero => intro n _; rfl
  | succ k ih =>
    intro n h
    have h1 : ¬ (t_s Q (nI a) (n + 1)).2.2 = 0 := by rw [t_s_E h]; exact h
    rw [e_mm]
    by_cases g : (t_s P (nI a) n).2.2 = 0
    · rw [if_pos g]
      by_cases g1 : (t_s P (nI a) (n + 1)).2.2 = 0
      · obtain ⟨b, hb, e⟩ := t_s_p hl ha _ g1
        rw [if_pos g1, e, show e_O Q (nI a) (n + 1) = -9 from if_neg h1, if_neg (nI_m9 (by omega)), ih _ h1]
      · rw [if_neg g1, ih _ h1]
    · rw [if_neg g]
theorem e_mm_mt {P Q : p_P} (hl : P.2.2.2.2.toInt ≤ 99) {a : Nat} (ha : a ≤ 99) : ∀ k n, (t_s P (nI a) n).2.2 = 0 → (t_s Q (nI a) n).2.2 = 0 → e_mm P Q (nI a) k n = e_mt P Q (nI a) k n := by
  intro k
  induction k with
  | zero => intro n _ _; rfl
  | succ k ih =>
    intro n h1 h2
    rw [e_mm, e_mt, if_pos h1]
    by_cases g1 : (t_s P (nI a) (n + 1)).2.2 = 0
    · rw [if_pos g1, if_pos g1]
      by_cases g2 : (t_s Q (nI a) (n + 1)).2.2 = 0
      · rw [if_pos g2, show e_O Q (nI a) (n + 1) = (t_s Q (nI a) (n + 1)).1 from if_pos g2, ih _ g1 g2]
      · obtain ⟨b, hb, e⟩ := t_s_p hl ha _ g1
        rw [if_neg g2, show e_O Q (nI a) (n + 1) = -9 from if_neg g2, if_neg (by rw [e]; exact nI_m9 (by omega)), e_mm_9 hl ha _ _ g2]
    · rw [if_neg g1, if_neg g1]
      cases k with
      | zero => rfl
      | succ k => rw [e_mm, if_neg g1]
/-- the second course -/
def c_T2 (sz : Nat → Int32) (rb : Int32) (S : dk_S) : Prop := (∀ j, j < 6 → S.1 26 j = sz j) ∧ S.1 27 1 = rb ∧ (∀ j, j < 100 → S.1 28 j = 0)
theorem x_cst2 {S : dk_S} {sz : Nat → Int32} {rb sl p f lo we : Int32} {st : Nat} {c : Nat → Int32} (hT : c_T2 sz rb S) (h : S.1 24 = c_row c p f (nI st) 0 lo we) (hc : c 3 = sl) (hst : st < 2 ^ 31) :
    fX0_stride 24 S = some (1, dk_sr S 24 (c_row c (p_S (c_P sz sl rb) 0 p f).1 (p_S (c_P sz sl rb) 0 p f).2.1 (nI (st + 1)) (p_S (c_P sz sl rb) 0 p f).2.2 (lo + p * p / (c_P sz sl rb).2.2.1) (we + (sz 3 + (p_S (c_P sz sl rb) 0 p f).1 / 10)))) := by
  have := q_stride h hst
  obtain ⟨t1, t2, t3⟩ := hT
  rw [c_P_c t1, t2, hc, t1 3 (by omega), show c_b (S.1 28) st = 0 from (by unfold c_b; by_cases hs : st ≤ 99; (· rw [if_pos hs]; exact t3 st (by omega)); (· rw [if_neg hs]))] at this
  exact this
theorem e_cmeet {S0 : dk_S} {sz so : Nat → Int32} {rb sl p0 : Int32} {c d : Nat → Int32} (hc : c 3 = sl) (hd : d 3 = sl) : ∀ (m k n : Nat) (lo we lo' we' : Int32) (S : dk_S), n + k = 400 → k < m → c_T sz rb S → c_T2 so rb S → (t_s (c_P sz sl rb) p0 n).2.2 = 0 → (t_s (c_P so sl rb) p0 n).2.2 = 0 → S.1 17 = c_row c (t_s (c_P sz sl rb) p0 n).1 (t_s (c_P sz sl rb) p0 n).2.1 (nI n) 0 lo we → S.1 24 = c_row d (t_s (c_P so sl rb) p0 n).1 (t_s (c_P so sl rb) p0 n).2.1 (nI n) 0 lo' we' → c_sm S0 S → S.2 = S0.2 →
    ∃ T, fX8_meets_L114 m (nI (n + 1)) S = some (e_mt (c_P sz sl rb) (c_P so sl rb) p0 k n, T) ∧ c_sm S0 T ∧ T.2 = S0.2 := by
  intro m
  induction m with
  | zero => intro k n lo we lo' we' S h1 h2; omega
  | succ m ih =>
    intro k n lo we lo' we' S h1 h2 hT hU g1 g2 r1 r2 hsm h22
    rw [fX8_meets_L114]
    cases k with
    | zero =>
      rw [if_pos (show (400 : Int32) < nI (n + 1) from (nI_ltI (a := 400) (by omega) (by omega)).mpr (by omega))]
      exact ⟨S, rfl, hsm, h22⟩
    | succ k =>
      rw [if_neg (show ¬ (400 : Int32) < nI (n + 1) from fun g => by have := (nI_ltI (a := 400) (by omega) (by omega)).mp g; omega), x_cst hT r1 hc (by omega), some_bind', ← t_s_S g1]
      dsimp only
      obtain ⟨A, hA⟩ : ∃ A, A = dk_sr S 17 (c_row c (t_s (c_P sz sl rb) p0 (n + 1)).1 (t_s (c_P sz sl rb) p0 (n + 1)).2.1 (nI (n + 1)) (t_s (c_P sz sl rb) p0 (n + 1)).2.2 (lo + (t_s (c_P sz sl rb) p0 n).1 * (t_s (c_P sz sl rb) p0 n).1 / (c_P sz sl rb).2.2.1) (we + (sz 3 + (t_s (c_P sz sl rb) p0 (n + 1)).1 / 10))) := ⟨_, rfl⟩
      rw [← hA]
      have aT : c_T sz rb A := by rw [hA]; exact hT.row
      have aU : c_T2 so rb A := by
        obtain ⟨u1, u2, u3⟩ := hU
        rw [hA]
        exact ⟨fun j hj => by rw [dk_sr_ne _ _ (by omega)]; exact u1 j hj, by rw [dk_sr_ne _ _ (by omega)]; exact u2, fun j hj => by rw [dk_sr_ne _ _ (by omega)]; exact u3 j hj⟩
      have a24 : A.1 24 = S.1 24 := by rw [hA, dk_sr_ne _ _ (by omega)]
      have a17 : A.1 17 = c_row c (t_s (c_P sz sl rb) p0 (n + 1)).1 (t_s (c_P sz sl rb) p0 (n + 1)).2.1 (nI (n + 1)) (t_s (c_P sz sl rb) p0 (n + 1)).2.2 (lo + (t_s (c_P sz sl rb) p0 n).1 * (t_s (c_P sz sl rb) p0 n).1 / (c_P sz sl rb).2.2.1) (we + (sz 3 + (t_s (c_P sz sl rb) p0 (n + 1)).1 / 10)) := by rw [hA, dk_sr_same]
      have asm : c_sm S0 A := by rw [hA]; exact hsm.tr c_sm.row
      have a22 : A.2 = S0.2 := by rw [hA]; exact h22
      clear hA
      rw [x_cst2 aU (a24.trans r2) hd (by omega), some_bind', ← t_s_S g2]
      dsimp only
      obtain ⟨C, hC⟩ : ∃ C, C = dk_sr A 24 (c_row d (t_s (c_P so sl rb) p0 (n + 1)).1 (t_s (c_P so sl rb) p0 (n + 1)).2.1 (nI (n + 1)) (t_s (c_P so sl rb) p0 (n + 1)).2.2 (lo' + (t_s (c_P so sl rb) p0 n).1 * (t_s (c_P so sl rb) p0 n).1 / (c_P so sl rb).2.2.1) (we' + (so 3 + (t_s (c_P so sl rb) p0 (n + 1)).1 / 10))) := ⟨_, rfl⟩
      rw [← hC]
      have cT : c_T sz rb C := by
        obtain ⟨u1, u2, u3⟩ := aT
        rw [hC]
        exact ⟨fun j hj => by rw [dk_sr_ne _ _ (by omega)]; exact u1 j hj, by rw [dk_sr_ne _ _ (by omega)]; exact u2, fun j hj => by rw [dk_sr_ne _ _ (by omega)]; exact u3 j hj⟩
      have cU : c_T2 so rb C := by
        obtain ⟨u1, u2, u3⟩ := aU
        rw [hC]
        exact ⟨fun j hj => by rw [dk_sr_ne _ _ (by omega)]; exact u1 j hj, by rw [dk_sr_ne _ _ (by omega)]; exact u2, fun j hj => by rw [dk_sr_ne _ _ (by omega)]; exact u3 j hj⟩
      have c17 : C.1 17 = A.1 17 := by rw [hC, dk_sr_ne _ _ (by omega)]
      have c24 : C.1 24 = c_row d (t_s (c_P so sl rb) p0 (n + 1)).1 (t_s (c_P so sl rb) p0 (n + 1)).2.1 (nI (n + 1)) (t_s (c_P so sl rb) p0 (n + 1)).2.2 (lo' + (t_s (c_P so sl rb) p0 n).1 * (t_s (c_P so sl rb) p0 n).1 / (c_P so sl rb).2.2.1) (we' + (so 3 + (t_s (c_P so sl rb) p0 (n + 1)).1 / 10)) := by rw [hC, dk_sr_same]
      have csm : c_sm S0 C := by rw [hC]; exact asm.tr ⟨fun p hp => by rw [dk_sr_ne _ _ (by omega)], fun _ _ _ => rfl⟩
      have c22 : C.2 = S0.2 := by rw [hC]; exact a22
      clear hC
      replace c17 := c17.trans a17
      rw [c17, c24, c_row_7, c_row_7, c_row_4, c_row_4, e_mt]
      by_cases q1 : (t_s (c_P sz sl rb) p0 (n + 1)).2.2 = 0
      · rw [if_pos q1, if_pos q1]
        by_cases q2 : (t_s (c_P so sl rb) p0 (n + 1)).2.2 = 0
        · rw [if_pos q2, if_pos q2]
          by_cases q3 : (t_s (c_P sz sl rb) p0 (n + 1)).1 = (t_s (c_P so sl rb) p0 (n + 1)).1
          · rw [if_pos q3, if_pos q3]
            exact ⟨C, rfl, csm, c22⟩
          · rw [if_neg q3, if_neg q3, nI_1]
            rw [q1] at c17
            rw [q2] at c24
            exact ih k (n + 1) _ _ _ _ C (by omega) (by omega) cT cU q1 q2 c17 c24 csm c22
        · rw [if_neg q2, if_neg q2]
          exact ⟨C, rfl, csm, c22⟩
      · rw [if_neg q1, if_neg q1]
        exact ⟨C, rfl, csm, c22⟩
theorem m_sm.hi {S : dk_S} {q : Nat} {g : Nat → Int32} (h : 99 ≤ q) : m_sm S (dk_sr S q g) := ⟨fun p hp _ => by rw [dk_sr_ne _ _ (by omega)], rfl, fun j hj => by rw [dk_sr_ne _ _ (by omega)]⟩
theorem m_T.hi {sz : Nat → Int32} {rb sl p0 p1 : Int32} {S : dk_S} {g : Nat → Int32} {q : Nat} (h : m_T sz rb sl p0 p1 S) (hq : 99 ≤ q) : m_T sz rb sl p0 p1 (dk_sr S q g) := by
  obtain ⟨t1, t2, t3, t4, t5, t6⟩ := h
  exact ⟨fun j hj => by rw [dk_sr_ne _ _ (by omega)]; exact t1 j hj, by rw [dk_sr_ne _ _ (by omega)]; exact t2, by rw [dk_sr_ne _ _ (by omega)]; exact t3, by rw [dk_sr_ne _ _ (by omega)]; exact t4, by rw [dk_sr_ne _ _ (by omega)]; exact t5, by rw [dk_sr_ne _ _ (by omega)]; exact t6⟩
theorem e_mm73 {S0 : dk_S} {so : Nat → Int32} {rb sl p0 x1 x3 x4 x5 : Int32} {c : Nat → Int32} (hok : a_ok so) (kx : dk_S → Option (Int32 × dk_S)) : ∀ (m k n : Nat) (lo we : Int32) (S : dk_S), n + k = 400 → k < m → m_T so rb sl 0 0 S → S.1 82 = m_row c (t_s (c_P so sl rb) p0 n).1 (t_s (c_P so sl rb) p0 n).2.1 (t_s (c_P so sl rb) p0 n).2.2 lo we → m_sm S0 S → (∀ j, 1 ≤ j → j ≤ n → S.1 102 j = e_O (c_P so sl rb) p0 j) →
    ∃ T, fX9_meets_L73 x1 x3 x4 x5 kx m (nI (n + 1)) S = kx T ∧ m_sm S0 T ∧ (∀ j, 1 ≤ j → j ≤ 400 → T.1 102 j = e_O (c_P so sl rb) p0 j) := by
  intro m
  induction m with
  | zero => intro k n lo we S h1 h2; omega
  | succ m ih =>
    intro k n lo we S h1 h2 hT hr hsm hO
    rw [fX9_meets_L73]
    cases k with
    | zero =>
      rw [if_pos (show (400 : Int32) < nI (n + 1) from (nI_ltI (a := 400) (by omega) (by omega)).mpr (by omega))]
      exact ⟨S, rfl, hsm, fun j h3 h4 => hO j h3 (by omega)⟩
    | succ k =>
      rw [if_neg (show ¬ (400 : Int32) < nI (n + 1) from fun g => by have := (nI_ltI (a := 400) (by omega) (by omega)).mp g; omega)]
      have hstep : ∃ (A : dk_S) (lo' we' : Int32), (∀ k24 : dk_S → Option (Int32 × dk_S), (if (S.1 82 27) = 0 then (fX9_steps (nI (n + 1)) S).bind (fun r29 => k24 r29) else k24 S) = k24 A) ∧ m_T so rb sl 0 0 A ∧ A.1 82 = m_row c (t_s (c_P so sl rb) p0 (n + 1)).1 (t_s (c_P so sl rb) p0 (n + 1)).2.1 (t_s (c_P so sl rb) p0 (n + 1)).2.2 lo' we' ∧ m_sm S0 A ∧ A.1 102 = S.1 102 := by
        have h27 : S.1 82 27 = (t_s (c_P so sl rb) p0 n).2.2 := by rw [hr, m_row_27]
        by_cases h0 : (t_s (c_P so sl rb) p0 n).2.2 = 0
        · rw [h0] at hr
          have hg : ∀ (p f i lo we : Int32) (j : Nat), j < 25 → (m_row c p f i lo we) j = S.1 82 j := fun p f i lo we j hj => by rw [hr, m_row_o _ _ _ _ _ _ (by omega), m_row_o _ _ _ _ _ _ (by omega)]
          have hx := x_mst hT hok hr (t_s_f _ _ _) (show n + 1 < 2 ^ 31 by omega)
          rw [← t_s_S h0] at hx
          refine ⟨_, _, _, fun k24 => by rw [h27, if_pos h0, hx, some_bind'], hT.row (hg _ _ _ _ _), dk_sr_same _ _ _, hsm.tr (m_sm.row (hg _ _ _ _ _)), dk_sr_ne _ _ (by omega)⟩
        · exact ⟨S, lo, we, fun k24 => by rw [h27, if_neg h0], hT, by rw [t_s_E h0]; exact hr, hsm, rfl⟩
      obtain ⟨A, lo', we', a1, a2, a3, a4, a5⟩ := hstep
      rw [dk_lt_eq, a1, dk_lt_eq, dI_in (by omega) (by omega), dk_gd_t, dk_lt_eq, nI_clamp (by omega), a3, m_row_27, m_row_25, nI_1, dk_si_eq, a5]
      refine ih k (n + 1) lo' we' _ (by omega) (by omega) (a2.hi (by omega)) (by rw [dk_sr_ne _ _ (by omega)]; exact a3) (a4.tr (m_sm.hi (by omega))) (fun j h3 h4 => ?_)
      rw [dk_sr_same, upd_at]
      by_cases hj : j = n + 1
      · rw [if_pos hj, hj]; rfl
      · rw [if_neg hj]; exact hO j h3 (by omega)
theorem e_mm141 {S0 : dk_S} {sz so : Nat → Int32} {rb sl p0 : Int32} {c : Nat → Int32} (hok : a_ok sz) : ∀ (m k n : Nat) (lo we : Int32) (S : dk_S), n + k = 400 → k < m → m_T sz rb sl 0 0 S → S.1 82 = m_row c (t_s (c_P sz sl rb) p0 n).1 (t_s (c_P sz sl rb) p0 n).2.1 (t_s (c_P sz sl rb) p0 n).2.2 lo we → m_sm S0 S → (∀ j, 1 ≤ j → j ≤ 400 → S.1 102 j = e_O (c_P so sl rb) p0 j) →
    ∃ T, fX9_meets_L141 m (nI (n + 1)) S = some (e_mm (c_P sz sl rb) (c_P so sl rb) p0 k n, T) ∧ m_sm S0 T := by
  intro m
  induction m with
  | zero => intro k n lo we S h1 h2; omega
  | succ m ih =>
    intro k n lo we S h1 h2 hT hr hsm hO
    rw [fX9_meets_L141]
    cases k with
    | zero =>
      rw [if_pos (show (400 : Int32) < nI (n + 1) from (nI_ltI (a := 400) (by omega) (by omega)).mpr (by omega))]
      exact ⟨S, rfl, hsm⟩
    | succ k =>
      rw [if_neg (show ¬ (400 : Int32) < nI (n + 1) from fun g => by have := (nI_ltI (a := 400) (by omega) (by omega)).mp g; omega), hr, m_row_27, e_mm]
      by_cases h0 : (t_s (c_P sz sl rb) p0 n).2.2 = 0
      · rw [h0] at hr
        have hg : ∀ (p f i lo we : Int32) (j : Nat), j < 25 → (m_row c p f i lo we) j = S.1 82 j := fun p f i lo we j hj => by rw [hr, m_row_o _ _ _ _ _ _ (by omega), m_row_o _ _ _ _ _ _ (by omega)]
        have hx := x_mst hT hok hr (t_s_f _ _ _) (show n + 1 < 2 ^ 31 by omega)
        rw [← t_s_S h0] at hx
        rw [if_pos h0, if_pos h0, hx, some_bind', dk_lt_eq, dk_sr_same, m_row_27, m_row_25, dI_in (by omega) (by omega), dk_gd_t, nI_clamp (by omega), dk_sr_ne _ _ (by omega), hO (n + 1) (by omega) (by omega), nI_1]
        have hnext := ih k (n + 1) _ _ _ (by omega) (by omega) (hT.row (hg _ _ _ _ _)) (dk_sr_same S 82 (m_row c (t_s (c_P sz sl rb) p0 (n + 1)).1 (t_s (c_P sz sl rb) p0 (n + 1)).2.1 (t_s (c_P sz sl rb) p0 (n + 1)).2.2 (lo + (t_s (c_P sz sl rb) p0 n).1 * (t_s (c_P sz sl rb) p0 n).1 / (c_P sz sl rb).2.2.1) (we + (sz 3 + (t_s (c_P sz sl rb) p0 (n + 1)).1 / 10)))) (hsm.tr (m_sm.row (hg _ _ _ _ _))) (fun j h3 h4 => by rw [dk_sr_ne _ _ (by omega)]; exact hO j h3 h4)
        by_cases q1 : (t_s (c_P sz sl rb) p0 (n + 1)).2.2 = 0
        · rw [if_pos q1, if_pos q1]
          by_cases q2 : (t_s (c_P sz sl rb) p0 (n + 1)).1 = e_O (c_P so sl rb) p0 (n + 1)
          · rw [if_pos q2, if_pos q2]
            exact ⟨_, rfl, hsm.tr (m_sm.row (hg _ _ _ _ _))⟩
          · rw [if_neg q2, if_neg q2]
            exact hnext
        · rw [if_neg q1, if_neg q1]
          exact hnext
      · rw [if_neg h0, if_neg h0]
        exact ⟨S, rfl, hsm⟩
theorem pr_meets (a1 : Int32) (a2 : Int32) (a3 : Int32) (a4 : Int32) (a5 : Int32) {n : Nat} {S : dk_S} (hn : n < 512) (hI : dk_I n S) : ∃ (r : Int32) (S1 S2 : dk_S), fX8_meets a1 a2 a3 a4 a5 S = some (r, S1) ∧ fX9_meets a1 a2 a3 a4 a5 S1 = some (r, S2) ∧ dk_I (n + 1) S2 := by
  unfold fX8_meets fX9_meets
  simp only [q_noWalker, q_isPlace, q_areGood, some_bind']
  by_cases hg : h_g a1 a3 a4 a5
  · rw [q_nG_t hg, some_bind', if_pos rfl]
    have hg2 : (0 ≤ a1 ∧ a1 ≤ 3) ∧ (0 ≤ a3 ∧ a3 ≤ 3) ∧ (0 ≤ a4 ∧ a4 ≤ 99) ∧ (0 ≤ a5 ∧ a5 ≤ 99) := ⟨hg.1.1, hg.1.2.1, hg.2, hg.1.2.2⟩
    by_cases h2 : 0 ≤ a2 ∧ a2 ≤ 3
    · simp only [if_pos h2, if_pos hg2, if_true, i_10, if_false]
      obtain ⟨k, l, t, a, hk, hl, ht, ha, rfl, rfl, rfl, rfl⟩ := h_g_of hg
      obtain ⟨o, ho, rfl⟩ := b_4 h2
      obtain ⟨hR, hT, hW, hB, hK⟩ := hI.2.1
      obtain ⟨w1, w2, w3, w4, w5, w6⟩ := hW k hk
      obtain ⟨v1, v2, v3, v4, v5, v6⟩ := hW o ho
      obtain ⟨b1, b2, b3, b4⟩ := hB l hl
      rw [dI_in ho (by omega), dI_in hk (by omega), dI_in hl (by omega)]
      simp only [dk_gd_t, nI_clamp (show k < 2 ^ 31 by omega), nI_clamp (show o < 2 ^ 31 by omega), nI_clamp (show l < 2 ^ 31 by omega)]
      rw [v1]
      have hmn : ¬ (S.1 89 k = 1 ∧ S.1 89 o = 1 ∧ S.1 91 l = 1) → ∀ X : dk_S → Option (Int32 × dk_S), (if (q_fnd S 1).1 89 k = 0 then (fX9_notes 1 (q_fnd S 1)).bind (fun r6 => some (r6.1, r6.2)) else (if (q_fnd S 1).1 89 o = 0 then (fX9_notes 1 (q_fnd S 1)).bind (fun r8 => some (r8.1, r8.2)) else (if (q_fnd S 1).1 91 l = 0 then (fX9_notes 1 (q_fnd S 1)).bind (fun r30 => some (r30.1, r30.2)) else X (q_fnd S 1)))) = some (-3, q_nts (q_fnd S 1) 1) := fun hh X => by
        rw [q_fnd_ne _ _ (by omega) (by omega), q_fnd_ne _ _ (by omega) (by omega), q_notes1, some_bind']
        rcases w2 with w2 | w2
        · rw [if_pos w2]
        · rcases v2 with v2 | v2
          · rw [if_neg (by rw [w2]; decide), if_pos v2]
          · rcases b2 with b2 | b2
            · rw [if_neg (by rw [w2]; decide), if_neg (by rw [v2]; decide), if_pos b2]
            · exact absurd ⟨w2, v2, b2⟩ hh
      rcases id v2 with g2 | g2
      · rw [g2, if_pos rfl, q_found1, some_bind']
        exact ⟨_, _, _, rfl, hmn (fun q => by rw [g2] at q; exact absurd q.2.1 (by decide)) (fun r => (fX9_looksAt (nI o) (nI l) (nI t) r).bind (fun r10 => (fX9_starts (nI a) 0 r10).bind (fun r11 => fX9_meets_L73 (nI k) (nI l) (nI t) (nI a) (fun t12 : dk_S => (fX9_looksAt (nI k) (nI l) (nI t) t12).bind (fun r13 => (fX9_starts (nI a) 0 r13).bind (fun r14 => fX9_meets_L141 dk_FU 1 r14))) dk_FU 1 r11))), dk_I_fn (f := 1) (by omega) hI⟩
      · rw [g2, if_neg (show ¬ (1 : Int32) = 0 by decide)]
        rcases q_isReady hk hl hW hB with ⟨e1, e2, S1, e3, e4, e5, e6, e7⟩ | ⟨e1, e3⟩
        · rw [e3, some_bind', if_neg (show ¬ (1 : Int32) = 0 by decide), q_take _ _ _ (by omega), some_bind', q_take3 _ _ _ (by omega), some_bind', q_begin, some_bind', q_begin, some_bind']
          generalize hU : dk_sr (dk_sr _ 17 _) 24 _ = U
          have u17 : U.1 17 = c_row (upd (S1.1 17) 3 (nI t)) (nI a) 0 (nI 0) 0 0 0 := by
            rw [← hU]
            simp (disch := omega) only [dk_sr_ne, dk_sr_same]
          have u24 : U.1 24 = c_row (upd (S1.1 24) 3 (nI t)) (nI a) 0 (nI 0) 0 0 0 := by
            rw [← hU]
            simp (disch := omega) only [dk_sr_ne, dk_sr_same]
          have uo : ∀ q, ¬ q = 17 → ¬ (24 ≤ q ∧ q ≤ 28) → U.1 q = S1.1 q := fun q q1 q2 => by
            rw [← hU]
            simp (disch := omega) only [dk_sr_ne]
          have u26 : ∀ j, j < 6 → U.1 26 j = S.1 (52 + 2 * o) j := fun j hj => by
            rw [← hU]
            simp (disch := omega) only [dk_sr_ne, dk_sr_same]
            rw [if_pos hj, show 51 + 2 * o + 1 = 52 + 2 * o by omega, e5.1 _ (by omega)]
          have u27 : U.1 27 1 = S1.1 20 1 := by
            rw [← hU]
            simp (disch := omega) only [dk_sr_ne, dk_sr_same, upd_same]
          have u28 : ∀ j, j < 100 → U.1 28 j = 0 := fun j hj => by
            rw [← hU]
            simp (disch := omega) only [dk_sr_ne, dk_sr_same]
            rw [if_pos hj]
            exact e4.2.2 j hj
          have u2 : U.2 = S1.2 := by rw [← hU]; rfl
          clear hU
          have uT : c_T (S.1 (52 + 2 * k)) (S.1 (59 + 2 * l) 1) U := ⟨fun j hj => by rw [uo 19 (by omega) (by omega)]; exact e4.1 j hj, by rw [uo 20 (by omega) (by omega)]; exact e4.2.1, fun j hj => by rw [uo 21 (by omega) (by omega)]; exact e4.2.2 j hj⟩
          have uU : c_T2 (S.1 (52 + 2 * o)) (S.1 (59 + 2 * l) 1) U := ⟨u26, by rw [u27]; exact e4.2.1, u28⟩
          have usm : c_sm S U := e5.tr ⟨fun q hq => uo q (by omega) (by omega), fun q _ _ => by rw [u2]⟩
          obtain ⟨T, t1, t2, t3⟩ := e_cmeet (S0 := S) (sl := nI t) (p0 := nI a) (c := upd (S1.1 17) 3 (nI t)) (d := upd (S1.1 24) 3 (nI t)) (upd_same _ _ _) (upd_same _ _ _) dk_FU 400 0 0 0 0 0 U (by omega) (by have := dk_FU_ge; omega) uT uU rfl rfl u17 u24 usm (by rw [u2, e6])
          have t1' : fX8_meets_L114 dk_FU 1 U = _ := t1
          rw [t1']
          have th : ∀ q, 82 < q → T.1 q = S.1 q := fun q hq => t2.1 q (by omega)
          obtain ⟨L, l1, l2, l3, -⟩ := q_looksAt (S := T) ho hl (nI t)
          rw [th 90 (by omega), th 92 (by omega)] at l2
          have lT : m_T (S.1 (52 + 2 * o)) (S.1 (59 + 2 * l) 1) (nI t) 0 0 L := by
            obtain ⟨s1, s2, s3⟩ := l2
            exact ⟨fun j hj => by rw [s1 j hj]; exact (v3 j hj).symm, by rw [s2]; exact (b3 e2).1.symm, s3⟩
          have hgg : ∀ (X : dk_S) (j : Nat), j < 25 → (m_row (X.1 82) (nI a) 0 0 0 0) j = X.1 82 j := fun X j hj => m_row_o _ _ _ _ _ _ (by omega)
          obtain ⟨M, m1, m2, m3⟩ := e_mm73 (S0 := T) (so := S.1 (52 + 2 * o)) (rb := S.1 (59 + 2 * l) 1) (sl := nI t) (p0 := nI a) (x1 := nI k) (x3 := nI l) (x4 := nI t) (x5 := nI a) (c := L.1 82) (a_ok_sz (v6 g2)) (fun t12 : dk_S => (fX9_looksAt (nI k) (nI l) (nI t) t12).bind (fun r13 => (fX9_starts (nI a) 0 r13).bind (fun r14 => fX9_meets_L141 dk_FU 1 r14))) dk_FU 400 0 0 0 (dk_sr L 82 (m_row (L.1 82) (nI a) 0 0 0 0)) (by omega) (by have := dk_FU_ge; omega) (lT.row (hgg L)) (dk_sr_same _ _ _) (l3.tr (m_sm.row (hgg L))) (fun j h3 h4 => by omega)
          obtain ⟨N, n1, n2, n3, n4⟩ := q_looksAt (S := M) hk hl (nI t)
          rw [m2.1 90 (by omega) (by omega), m2.1 92 (by omega) (by omega), th 90 (by omega), th 92 (by omega)] at n2
          have nT : m_T (S.1 (52 + 2 * k)) (S.1 (59 + 2 * l) 1) (nI t) 0 0 N := by
            obtain ⟨s1, s2, s3⟩ := n2
            exact ⟨fun j hj => by rw [s1 j hj]; exact (w3 j hj).symm, by rw [s2]; exact (b3 e2).1.symm, s3⟩
          obtain ⟨V, p1, p2⟩ := e_mm141 (S0 := T) (sz := S.1 (52 + 2 * k)) (so := S.1 (52 + 2 * o)) (rb := S.1 (59 + 2 * l) 1) (sl := nI t) (p0 := nI a) (c := N.1 82) (a_ok_sz (w6 e1)) dk_FU 400 0 0 0 (dk_sr N 82 (m_row (N.1 82) (nI a) 0 0 0 0)) (by omega) (by have := dk_FU_ge; omega) (nT.row (hgg N)) (dk_sr_same _ _ _) ((m2.tr n3).tr (m_sm.row (hgg N))) (fun j h3 h4 => by rw [dk_sr_ne _ _ (by omega), n4 102 (by omega)]; exact m3 j h3 h4)
          rw [e_mm_mt (P := c_P (S.1 (52 + 2 * k)) (nI t) (S.1 (59 + 2 * l) 1)) (Q := c_P (S.1 (52 + 2 * o)) (nI t) (S.1 (59 + 2 * l) 1)) (a_ok_sz (w6 e1)).2 ha 400 0 rfl rfl] at p1
          refine ⟨_, T, V, rfl, ?_, an_none hI t2 ((c_ok.of hI.2.2).c (by rw [t3]) (by rw [t3])) (by omega) p2⟩
          have m1' : fX9_meets_L73 (nI k) (nI l) (nI t) (nI a) _ dk_FU 1 (dk_sr L 82 (m_row (L.1 82) (nI a) 0 0 0 0)) = _ := m1
          have p1' : fX9_meets_L141 dk_FU 1 (dk_sr N 82 (m_row (N.1 82) (nI a) 0 0 0 0)) = _ := p1
          rw [th 89 (by omega), th 91 (by omega), e1, g2, e2, if_neg (show ¬ (1 : Int32) = 0 by decide), if_neg (show ¬ (1 : Int32) = 0 by decide), if_neg (show ¬ (1 : Int32) = 0 by decide), l1, some_bind', q_starts, some_bind', m1', n1, some_bind', q_starts, some_bind', p1']
        · rw [e3, some_bind', if_pos rfl, q_found1, some_bind']
          exact ⟨_, _, _, rfl, hmn (fun q => e1 ⟨q.1, q.2.2⟩) (fun r => (fX9_looksAt (nI o) (nI l) (nI t) r).bind (fun r10 => (fX9_starts (nI a) 0 r10).bind (fun r11 => fX9_meets_L73 (nI k) (nI l) (nI t) (nI a) (fun t12 : dk_S => (fX9_looksAt (nI k) (nI l) (nI t) t12).bind (fun r13 => (fX9_starts (nI a) 0 r13).bind (fun r14 => fX9_meets_L141 dk_FU 1 r14))) dk_FU 1 r11))), dk_I_fn (f := 1) (by omega) hI⟩
    · simp only [if_neg h2, i_10, if_false, if_true]
      exact ⟨_, _, _, rfl, rfl, dk_I_up hI⟩
  · rw [q_nG_f hg, some_bind', if_neg (show ¬ (1 : Int32) = 0 by decide)]
    refine ⟨_, _, S, rfl, ?_, dk_I_up hI⟩
    have hg2 : ¬ ((0 ≤ a1 ∧ a1 ≤ 3) ∧ (0 ≤ a3 ∧ a3 ≤ 3) ∧ (0 ≤ a4 ∧ a4 ≤ 99) ∧ (0 ≤ a5 ∧ a5 ≤ 99)) := fun q => hg ⟨⟨q.1, q.2.1, q.2.2.2⟩, q.2.2.1⟩
    by_cases h2 : 0 ≤ a2 ∧ a2 ≤ 3
    · simp only [if_pos h2, if_neg hg2, i_10, if_false, if_true]
    · simp only [if_neg h2, i_10, if_false, if_true]
