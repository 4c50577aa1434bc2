/-! mark -/
def u_q (P : p_P) (a n : Nat) : Nat := (t_s P (nI a) n).1.toNatClampNeg
def u_L (P : p_P) (a : Nat) : Nat → Nat
  | 0 => 0
  | n + 1 => if u_q P a (n + 1) < 64 then u_L P a n ||| 2 ^ (u_q P a (n + 1)) else u_L P a n
def u_H (P : p_P) (a : Nat) : Nat → Nat
  | 0 => 0
  | n + 1 => if u_q P a (n + 1) < 64 then u_H P a n else u_H P a n ||| 2 ^ (u_q P a (n + 1) - 64)
def u_c (P : p_P) (a n : Nat) : Nat := b_P 8 (u_L P a n) + b_P 8 (u_H P a n)
def u_b (P : p_P) (a n q : Nat) : Bool := if q < 64 then (u_L P a n).testBit q else (u_H P a n).testBit (q - 64)
theorem u_c_le (P : p_P) (a n : Nat) : u_c P a n ≤ 128 := by
  have h1 := (s_6_ok (u_L P a n)).2.1
  have h2 := (s_6_ok (u_H P a n)).2.1
  unfold u_c
  omega
theorem u_c_S {P : p_P} {a n : Nat} (hq : u_q P a (n + 1) ≤ 99) : u_c P a (n + 1) = u_c P a n + (if u_b P a n (u_q P a (n + 1)) = true then 0 else 1) := by
  unfold u_c u_b
  rw [u_L, u_H]
  by_cases h : u_q P a (n + 1) < 64
  · rw [if_pos h, if_pos h, if_pos h, b_P_inc 8 _ _ (by omega)]
    omega
  · rw [if_neg h, if_neg h, if_neg h, b_P_inc 8 _ _ (by omega)]
    omega
theorem u_b_S {P : p_P} {a n q : Nat} (hq : u_q P a (n + 1) ≤ 99) (hq2 : q ≤ 99) : u_b P a (n + 1) q = (decide (q = u_q P a (n + 1)) || u_b P a n q) := by
  unfold u_b
  rw [u_L, u_H]
  by_cases h : u_q P a (n + 1) < 64
  · rw [if_pos h, if_pos h]
    by_cases h2 : q < 64
    · rw [if_pos h2, if_pos h2, Nat.testBit_or, Nat.testBit_two_pow, Bool.or_comm]
      congr 1
      by_cases e : q = u_q P a (n + 1)
      · rw [decide_eq_true e, decide_eq_true e.symm]
      · rw [decide_eq_false e, decide_eq_false (fun g => e g.symm)]
    · rw [if_neg h2, if_neg h2, decide_eq_false (by omega), Bool.false_or]
  · rw [if_neg h, if_neg h]
    by_cases h2 : q < 64
    · rw [if_pos h2, if_pos h2, decide_eq_false (by omega), Bool.false_or]
    · rw [if_neg h2, if_neg h2, Nat.testBit_or, Nat.testBit_two_pow, Bool.or_comm]
      congr 1
      by_cases e : q = u_q P a (n + 1)
      · rw [decide_eq_true e, decide_eq_true (by omega)]
      · rw [decide_eq_false e, decide_eq_false (by omega)]
theorem u_q_ok {P : p_P} (hl : P.2.2.2.2.toInt ≤ 99) {a n : Nat} (ha : a ≤ 99) (h : (t_s P (nI a) n).2.2 = 0) : u_q P a n ≤ 99 ∧ (t_s P (nI a) n).1 = nI (u_q P a n) := by
  obtain ⟨b, hb, e⟩ := t_s_p hl ha n h
  unfold u_q
  rw [e, nI_clamp (by omega)]
  exact ⟨hb, rfl⟩
theorem e_cun {S0 : dk_S} {sz : Nat → Int32} {rb sl : Int32} {a : Nat} {c : Nat → Int32} (hc : c 3 = sl) (hl : (20 + 8 * sz 0).toInt ≤ 99) (ha : a ≤ 99) (hal : ∀ n, n ≤ 400 → (t_s (c_P sz sl rb) (nI a) n).2.2 = 0) : ∀ (m k n : Nat) (lo we : Int32) (x3 x5 : Int64) (S : dk_S), n + k = 400 → k < m → c_T sz rb S → S.1 17 = c_row c (t_s (c_P sz sl rb) (nI a) n).1 (t_s (c_P sz sl rb) (nI a) n).2.1 (nI n) 0 lo we → l_N x3 = u_L (c_P sz sl rb) a n → l_N x5 = u_H (c_P sz sl rb) a n → c_sm S0 S → S.2 = S0.2 →
    ∃ T, fX7_unlikePaces_L18 m x3 x5 (nI n) S = some (nI (u_c (c_P sz sl rb) a p_400), T) ∧ c_sm S0 T ∧ T.2 = S0.2 := by
  intro m
  induction m with
  | zero => intro k n lo we x3 x5 S h1 h2; omega
  | succ m ih =>
    intro k n lo we x3 x5 S h1 h2 hT hrow h3 h5 hsm h22
    rw [fX7_unlikePaces_L18]
    cases k with
    | zero =>
      have hn : p_400 = n := by rw [p_400_eq]; omega
      rw [if_pos (show (400 : Int32) ≤ nI n from (nI_leI (a := 400) (by omega) (by omega)).mpr (by omega)), q_bcL, some_bind', q_bcL, some_bind', h3, h5, nI_add, hn]
      exact ⟨S, rfl, hsm, h22⟩
    | succ k =>
      have e0 := hal n (by omega)
      have hx := x_cst hT hrow hc (by omega)
      rw [← t_s_S e0] at hx
      obtain ⟨q1, q2⟩ := u_q_ok (P := c_P sz sl rb) hl ha (hal (n + 1) (by omega))
      rw [if_neg (show ¬ (400 : Int32) ≤ nI n from fun g => by have := (nI_leI (a := 400) (by omega) (by omega)).mp g; omega), hx, some_bind', if_neg (show ¬ (1 : Int32) = 0 by decide)]
      simp only [dk_lt_eq, nI_1]
      rw [dk_sr_same, c_row_4, q2]
      have hrow2 : (dk_sr S 17 (c_row c (t_s (c_P sz sl rb) (nI a) (n + 1)).1 (t_s (c_P sz sl rb) (nI a) (n + 1)).2.1 (nI (n + 1)) (t_s (c_P sz sl rb) (nI a) (n + 1)).2.2 (lo + (t_s (c_P sz sl rb) (nI a) n).1 * (t_s (c_P sz sl rb) (nI a) n).1 / (c_P sz sl rb).2.2.1) (we + (sz 3 + (t_s (c_P sz sl rb) (nI a) (n + 1)).1 / 10)))).1 17 = c_row c (t_s (c_P sz sl rb) (nI a) (n + 1)).1 (t_s (c_P sz sl rb) (nI a) (n + 1)).2.1 (nI (n + 1)) 0 (lo + (t_s (c_P sz sl rb) (nI a) n).1 * (t_s (c_P sz sl rb) (nI a) n).1 / (c_P sz sl rb).2.2.1) (we + (sz 3 + (t_s (c_P sz sl rb) (nI a) (n + 1)).1 / 10)) := by rw [dk_sr_same, hal (n + 1) (by omega)]
      rw [q2] at hrow2
      by_cases h64 : u_q (c_P sz sl rb) a (n + 1) < 64
      · rw [if_neg (show ¬ (64 : Int32) ≤ nI (u_q (c_P sz sl rb) a (n + 1)) from fun g => by have := (nI_leI (a := 64) (by omega) (by omega)).mp g; omega)]
        refine ih k (n + 1) _ _ _ _ _ (by omega) (by omega) hT.row (by rw [q2]; exact hrow2) ?_ ?_ (hsm.tr c_sm.row) h22
        · rw [l_set h64, h3, u_L, if_pos h64]
        · rw [h5, u_H, if_pos h64]
      · rw [if_pos (show (64 : Int32) ≤ nI (u_q (c_P sz sl rb) a (n + 1)) from (nI_leI (a := 64) (by omega) (by omega)).mpr (by omega)), show (64 : Int32) = nI 64 from rfl, pk_sub (by omega)]
        refine ih k (n + 1) _ _ _ _ _ (by omega) (by omega) hT.row (by rw [q2]; exact hrow2) ?_ ?_ (hsm.tr c_sm.row) h22
        · rw [h3, u_L, if_neg h64]
        · rw [l_set (show u_q (c_P sz sl rb) a (n + 1) - 64 < 64 by omega), h5, u_H, if_neg h64]
theorem nar_0 : vp_nar .boolean 0 = 0 := by decide
theorem e_un2 {x1 : Int32} (kx : dk_S → Option (Int32 × dk_S)) : ∀ (m i : Nat) (S : dk_S), i ≤ 400 → 400 - i < m → fX9_unlikePaces_L2 x1 kx m (nI i) S = kx (dk_sr S 101 (fun j => if i ≤ j ∧ j < 400 then 0 else S.1 101 j)) := by
  intro m
  induction m with
  | zero => intro i S h1 h2; omega
  | succ m ih =>
    intro i S h1 h2
    rw [fX9_unlikePaces_L2]
    by_cases h : i = 400
    · subst h
      rw [if_pos (show (400 : Int32) ≤ nI 400 from by decide)]
      congr 1
      conv => lhs; rw [← dk_sr_id S 101]
      congr 1
      funext j
      rw [if_neg (by omega)]
    · rw [if_neg (show ¬ (400 : Int32) ≤ nI i from fun q => by have := (nI_leI (a := 400) (by omega) (by omega)).mp q; omega), dI_in (by omega) (by omega), dk_gd_t, dk_lt_eq, nI_clamp (by omega), nI_1, nar_0, ih (i + 1) _ (by omega) (by omega), dk_si_eq, dk_sr_sr, dk_sr_same]
      congr 2
      funext j
      by_cases hj : j = i
      · subst hj
        rw [if_neg (by omega), if_pos (by omega), upd_same]
      · rw [upd_ne _ _ hj]
        by_cases hj2 : i ≤ j ∧ j < 400
        · rw [if_pos hj2, if_pos (by omega)]
        · rw [if_neg hj2, if_neg (by omega)]
theorem e_mun {S0 : dk_S} {sz : Nat → Int32} {rb sl : Int32} {a : Nat} {c : Nat → Int32} (hok : a_ok sz) (ha : a ≤ 99) (hal : ∀ n, n ≤ 400 → (t_s (c_P sz sl rb) (nI a) n).2.2 = 0) : ∀ (m k n : Nat) (lo we : Int32) (S : dk_S), n + k = 400 → k < m → m_T sz rb sl 0 0 S → S.1 82 = m_row c (t_s (c_P sz sl rb) (nI a) n).1 (t_s (c_P sz sl rb) (nI a) n).2.1 0 lo we → (∀ q, q ≤ 99 → S.1 101 q = k_b (u_b (c_P sz sl rb) a n q)) → m_sm S0 S →
    ∃ T, fX9_unlikePaces_L32 m (nI (u_c (c_P sz sl rb) a n)) (nI n) S = some (nI (u_c (c_P sz sl rb) a p_400), T) ∧ m_sm S0 T := by
  intro m
  induction m with
  | zero => intro k n lo we S h1 h2; omega
  | succ m ih =>
    intro k n lo we S h1 h2 hT hrow hs hsm
    rw [fX9_unlikePaces_L32]
    cases k with
    | zero =>
      have hn : p_400 = n := by rw [p_400_eq]; omega
      rw [if_pos (show (400 : Int32) ≤ nI n from (nI_leI (a := 400) (by omega) (by omega)).mpr (by omega)), hn]
      exact ⟨S, rfl, hsm⟩
    | succ k =>
      have e0 := hal n (by omega)
      have hg : ∀ (p f i lo we : Int32) (j : Nat), j < 25 → (m_row c p f i lo we) j = S.1 82 j := fun p f i lo we j hj => by rw [hrow, m_row_o _ _ _ _ _ _ (by omega), m_row_o _ _ _ _ _ _ (by omega)]
      have hx := x_mst hT hok hrow (t_s_f _ _ _) (show n < 2 ^ 31 by omega)
      rw [← t_s_S e0] at hx
      obtain ⟨q1, q2⟩ := u_q_ok (P := c_P sz sl rb) hok.2 ha (hal (n + 1) (by omega))
      rw [if_neg (show ¬ (400 : Int32) ≤ nI n from fun g => by have := (nI_leI (a := 400) (by omega) (by omega)).mp g; omega), hrow, m_row_27, if_pos rfl, hx, some_bind']
      obtain ⟨A, hA⟩ : ∃ A, A = dk_sr S 82 (m_row c (t_s (c_P sz sl rb) (nI a) (n + 1)).1 (t_s (c_P sz sl rb) (nI a) (n + 1)).2.1 (t_s (c_P sz sl rb) (nI a) (n + 1)).2.2 (lo + (t_s (c_P sz sl rb) (nI a) n).1 * (t_s (c_P sz sl rb) (nI a) n).1 / (c_P sz sl rb).2.2.1) (we + (sz 3 + (t_s (c_P sz sl rb) (nI a) (n + 1)).1 / 10))) := ⟨_, rfl⟩
      rw [← hA]
      have a82 : A.1 82 = m_row c (t_s (c_P sz sl rb) (nI a) (n + 1)).1 (t_s (c_P sz sl rb) (nI a) (n + 1)).2.1 0 (lo + (t_s (c_P sz sl rb) (nI a) n).1 * (t_s (c_P sz sl rb) (nI a) n).1 / (c_P sz sl rb).2.2.1) (we + (sz 3 + (t_s (c_P sz sl rb) (nI a) (n + 1)).1 / 10)) := by rw [hA, dk_sr_same, hal (n + 1) (by omega)]
      have a25 : A.1 82 25 = nI (u_q (c_P sz sl rb) a (n + 1)) := by rw [a82, m_row_25, q2]
      have aT : m_T sz rb sl 0 0 A := by rw [hA]; exact hT.row (hg _ _ _ _ _)
      have asm : m_sm S0 A := by rw [hA]; exact hsm.tr (m_sm.row (hg _ _ _ _ _))
      have a101 : A.1 101 = S.1 101 := by rw [hA, dk_sr_ne _ _ (by omega)]
      clear hA
      simp only [a25, dI_in (show u_q (c_P sz sl rb) a (n + 1) < 400 by omega) (show (400 : Nat) < 2 ^ 31 by omega), dk_gd_t, dk_lt_eq, nI_clamp (show u_q (c_P sz sl rb) a (n + 1) < 2 ^ 31 by omega), nar_1, nI_1]
      rw [a101, hs _ q1]
      have hcnt : nI (u_c (c_P sz sl rb) a n) + (if k_b (u_b (c_P sz sl rb) a n (u_q (c_P sz sl rb) a (n + 1))) = 0 then 1 else 0) = nI (u_c (c_P sz sl rb) a (n + 1)) := by
        rw [u_c_S q1]
        cases u_b (c_P sz sl rb) a n (u_q (c_P sz sl rb) a (n + 1)) with
        | true => rw [if_neg k_b_t, if_pos rfl, Int32.add_zero, Nat.add_zero]
        | false => rw [if_pos k_b_f, if_neg (show ¬ (false = true) by decide), nI_1]
      rw [hcnt, dk_si_eq, a101]
      refine ih k (n + 1) _ _ _ (by omega) (by omega) (aT.hi (by omega)) (by rw [dk_sr_ne _ _ (by omega)]; exact a82) (fun q hq => ?_) (asm.tr (m_sm.hi (by omega)))
      rw [dk_sr_same, upd_at, u_b_S q1 hq]
      by_cases e : q = u_q (c_P sz sl rb) a (n + 1)
      · rw [if_pos e, decide_eq_true e, Bool.true_or]; rfl
      · rw [if_neg e, decide_eq_false e, Bool.false_or, hs q hq]
theorem u_c_0 (P : p_P) (a : Nat) : u_c P a 0 = 0 := by unfold u_c u_L u_H; rw [b_P_0]
theorem u_b_0 (P : p_P) (a q : Nat) : u_b P a 0 q = false := by
  unfold u_b u_L u_H
  rw [Nat.zero_testBit, Nat.zero_testBit]
  by_cases h : q < 64
  · rw [if_pos h]
  · rw [if_neg h]
theorem k_of_c {kd x : Int32} (h0 : ¬ x = 0) (h : k_of kd x = true) : x = kd ∨ (x = 1 ∧ kd = 6) ∨ (x = 2 ∧ kd = 7) := by
  unfold k_of at h
  rcases of_decide_eq_true h with h | h | h | h
  · exact absurd h h0
  · exact Or.inl h
  · exact Or.inr (Or.inl h)
  · exact Or.inr (Or.inr h)
theorem pr_mark (a1 : Int32) (a2 : Int32) (a3 : Int32) (a4 : Int32) (a5 : Int32) {n : Nat} {S : dk_S} (hn : n < 512) (hI : dk_I n S) : ∃ (r : Int32) (S1 S2 : dk_S), fX8_mark a1 a2 a3 a4 a5 S = some (r, S1) ∧ fX9_mark a1 a2 a3 a4 a5 S1 = some (r, S2) ∧ dk_I (n + 1) S2 := by
  unfold fX8_mark fX9_mark
  simp only [q_isOutside, q_in, some_bind']
  by_cases hg : h_g a1 a2 a3 a4
  · rw [q_nG_t hg, some_bind', if_pos rfl]
    by_cases h4 : 1 ≤ a5 ∧ a5 ≤ 7
    · simp only [if_pos h4, if_true]
      obtain ⟨k, l, t, a, hk, hl, ht, ha, rfl, rfl, rfl, rfl⟩ := h_g_of hg
      rcases h_two hI hk hl with ⟨S1, sz, rb, e1, e2, e3, e4, e5, -, -, -, e8⟩ | ⟨e1, e2⟩
      · rw [e1, some_bind', if_neg (show ¬ (1 : Int32) = 0 by decide)]
        have hok := a_ok_sz e5
        obtain ⟨T, f1, f2, f3, f4, -, f5, -, f7, f8⟩ := q_find2 (nI t) e2 hok.2 ((c_ok.of hI.2.2).c (by rw [e4]) (by rw [e4])) (by omega) ha
        rw [f1, some_bind', q_isOf, some_bind', f5]
        have hsm := e3.tr f3
        have h50 : ¬ a5 = 0 := fun q => by rw [q] at h4; exact absurd h4.1 (by decide)
        -- the model, from a state that the class leaves
        have hM : ∀ G : dk_S, (∀ q, 82 < q → G.1 q = S.1 q) → ∃ S2 T2, fX9_need 1 (nI k) (nI l) (nI t) (nI a) G = some (0, S2) ∧ fX9_goingOf (nI a) S2 = some ((g_K (c_P sz (nI t) rb) a).1, T2) ∧ m_T sz rb (nI t) 0 0 T2 ∧ m_sm G T2 ∧ T2.1 82 34 = nI (p_res (c_P sz (nI t) rb) (nI a)).1 ∧ (((g_K (c_P sz (nI t) rb) a).1 = 1 ∨ (g_K (c_P sz (nI t) rb) a).1 = 6 ∨ (g_K (c_P sz (nI t) rb) a).1 = 2 ∨ (g_K (c_P sz (nI t) rb) a).1 = 7) → T2.1 82 36 = (g_K (c_P sz (nI t) rb) a).2.2.1 ∧ T2.1 82 37 = (g_K (c_P sz (nI t) rb) a).2.2.2) := fun G hG => by
          obtain ⟨S2, g1, g2, g3⟩ := e8 G 1 t a (by decide) ht ha hG
          obtain ⟨T2, k1, k2, k3, -, -, -, k6, k7⟩ := q_going2 g2 hok ha
          rw [← a_P_c hok] at k1 k6 k7
          exact ⟨S2, T2, g1, k1, k2, g3.tr k3, k6, k7⟩
        have hal : (g_K (c_P sz (nI t) rb) a).1 = 3 → ∀ n, n ≤ 400 → (t_s (c_P sz (nI t) rb) (nI a) n).2.2 = 0 := fun q => alive hok.2 ha q
        have hlim : fX1_limit 18 T = some (20 + 8 * sz 0, T) := by rw [q_limit, show (18 + 1 : Nat) = 19 from rfl, f2.1 0 (by omega)]
        generalize hKK : g_K (c_P sz (nI t) rb) a = K at f7 f8 hM hal
        cases hb : k_of K.1 a5 with
        | false =>
          rw [if_pos k_b_f, q_found3, some_bind']
          obtain ⟨S2, T2, g1, k1, k2, k3, k4, k5⟩ := hM (q_fnd T 3) (fun q hq => by rw [q_fnd_ne _ _ (by omega) (by omega)]; exact hsm.1 q (by omega))
          refine ⟨_, _, _, rfl, ?_, an_fn (f := 3) (by omega) hI hsm f4 (by omega) k3⟩
          rw [g1, some_bind', if_pos (show (0 : Int32) ≤ 0 by decide), k1, some_bind', q_misOf, some_bind', hb, if_pos k_b_f, q_notes3, some_bind']
        | true =>
          rw [if_neg k_b_t]
          have hkc := k_of_c h50 hb
          by_cases h53 : a5 = 3
          · subst h53
            have hK3 : K.1 = 3 := by
              rcases hkc with h | ⟨h, -⟩ | ⟨h, -⟩
              · exact h.symm
              · exact absurd h (by decide)
              · exact absurd h (by decide)
            have hal' := hal hK3
            rw [if_pos rfl]
            unfold fX7_unlikePaces
            rw [q_begin, some_bind']
            obtain ⟨U, u1, u2, u3⟩ := e_cun (S0 := T) (sz := sz) (rb := rb) (sl := nI t) (c := upd (T.1 17) 3 (nI t)) (upd_same _ _ _) hok.2 ha hal' dk_FU 400 0 0 0 0 0 (dk_sr T 17 (c_row (upd (T.1 17) 3 (nI t)) (nI a) 0 (nI 0) 0 0 0)) (by omega) (by have := dk_FU_ge; omega) f2.row (dk_sr_same _ _ _) rfl rfl c_sm.row rfl
            have u1' : fX7_unlikePaces_L18 dk_FU 0 0 0 (dk_sr T 17 (c_row (upd (T.1 17) 3 (nI t)) (nI a) 0 (nI 0) 0 0 0)) = _ := u1
            rw [show ((k_b true, T) : Int32 × dk_S).2 = T from rfl, u1', some_bind']
            have husm := hsm.tr u2
            obtain ⟨S2, T2, g1, k1, k2, k3, k4, k5⟩ := hM U (fun q hq => husm.1 q (by omega))
            obtain ⟨V, v1, v2⟩ := e_mun (S0 := U) (sz := sz) (rb := rb) (sl := nI t) (c := T2.1 82) hok ha hal' dk_FU 400 0 0 0 (dk_sr (dk_sr T2 101 (fun j => if 0 ≤ j ∧ j < 400 then 0 else T2.1 101 j)) 82 (m_row (T2.1 82) (nI a) 0 0 0 0)) (by omega) (by have := dk_FU_ge; omega) ((k2.hi (by omega)).row (fun j hj => by rw [m_row_o _ _ _ _ _ _ (by omega), dk_sr_ne _ _ (by omega)])) (dk_sr_same _ _ _) (fun q hq => by rw [dk_sr_ne _ _ (by omega), dk_sr_same, if_pos (by omega), u_b_0]; rfl) ((k3.tr (m_sm.hi (by omega))).tr (m_sm.row (fun j hj => by rw [m_row_o _ _ _ _ _ _ (by omega), dk_sr_ne _ _ (by omega)])))
            rw [u_c_0, nI_0] at v1
            refine ⟨_, _, _, rfl, ?_, an_none hI husm (f4.c (by rw [u3]) (by rw [u3])) (by omega) v2⟩
            rw [g1, some_bind', if_pos (show (0 : Int32) ≤ 0 by decide), k1, some_bind', q_misOf, some_bind', hb, if_neg k_b_t, if_neg (by decide), if_neg (by decide), if_pos rfl]
            have hl2 := e_un2 (x1 := nI a) (fun t1 : dk_S => (fX9_starts (nI a) 0 t1).bind (fun r2 => fX9_unlikePaces_L32 dk_FU 0 0 r2)) dk_FU 0 T2 (by omega) (by have := dk_FU_ge; omega)
            rw [nI_0] at hl2
            unfold fX9_unlikePaces
            rw [hl2, q_starts, some_bind', dk_sr_ne _ _ (by omega : ¬ 82 = 101), v1, some_bind']
          · rw [if_neg h53]
            obtain ⟨S2, T2, g1, k1, k2, k3, k4, k5⟩ := hM T (fun q hq => hsm.1 q (by omega))
            -- what both tell
            have hfin : ∀ v, fX7_tells a5 T = some (v, T) → (if a5 = 1 then some (T2.1 82 36, T2) else if a5 = 2 then some ((T2.1 82 37) - (T2.1 82 36), T2) else if a5 = 3 then (fX9_unlikePaces (nI a) T2).bind (fun r10 => some (r10.1, r10.2)) else if a5 = 4 then some (T2.1 82 34, T2) else if a5 = 5 then some (T2.1 82 34, T2) else if a5 = 6 then (fX9_fallsAt T2).bind (fun r14 => some (r14.1 - (r14.2.1 82 36), r14.2)) else some (T2.1 82 36, T2)) = some (v, T2) → ∃ (r : Int32) (S1 S2 : dk_S), (fX7_tells a5 T).bind (fun r11 => some (r11.1, r11.2)) = some (r, S1) ∧ (fX9_need 1 (nI k) (nI l) (nI t) (nI a) S1).bind (fun r2 => if 0 ≤ r2.1 then (fX9_goingOf (nI a) r2.2).bind (fun r4 => (fX9_isOf r4.1 a5 r4.2).bind (fun r5 => if r5.1 = 0 then (fX9_notes 3 r5.2).bind (fun r16 => some (r16.1, r16.2)) else if a5 = 1 then some (r5.2.1 82 36, r5.2) else if a5 = 2 then some ((r5.2.1 82 37) - (r5.2.1 82 36), r5.2) else if a5 = 3 then (fX9_unlikePaces (nI a) r5.2).bind (fun r10 => some (r10.1, r10.2)) else if a5 = 4 then some (r5.2.1 82 34, r5.2) else if a5 = 5 then some (r5.2.1 82 34, r5.2) else if a5 = 6 then (fX9_fallsAt r5.2).bind (fun r14 => some (r14.1 - (r14.2.1 82 36), r14.2)) else some (r5.2.1 82 36, r5.2))) else some (r2.1, r2.2)) = some (r, S2) ∧ dk_I (n + 1) S2 := fun v h1 h2 => by
              refine ⟨v, T, T2, by rw [h1, some_bind'], ?_, an_none hI hsm f4 (by omega) k3⟩
              rw [g1, some_bind', if_pos (show (0 : Int32) ≤ 0 by decide), k1, some_bind', q_misOf, some_bind', hb, if_neg k_b_t]
              exact h2
            obtain ⟨c, hc, rfl⟩ := dI_of (n := 7) (x := a5) (by omega) (by have := h4.1; rw [i32_le] at this ⊢; rw [show (1 : Int32).toInt = 1 from rfl] at this; rw [show (0 : Int32).toInt = 0 from rfl]; omega) h4.2
            have hfall : fX9_fallsAt T2 = some (20 + 8 * sz 0, T2) := by
              unfold fX9_fallsAt
              rw [k2.1 0 (by omega)]
            unfold fX7_tells at hfin
            rcases (show c = 0 ∨ c = 1 ∨ c = 2 ∨ c = 3 ∨ c = 4 ∨ c = 5 ∨ c = 6 ∨ c = 7 by omega) with rfl | rfl | rfl | rfl | rfl | rfl | rfl | rfl
            · exact absurd rfl h50
            · have hk1 : K.1 = 1 ∨ K.1 = 6 ∨ K.1 = 2 ∨ K.1 = 7 := by
                rcases hkc with h | ⟨-, h⟩ | ⟨h, -⟩
                · exact Or.inl h.symm
                · exact Or.inr (Or.inl h)
                · exact absurd h (by decide)
              exact hfin K.2.2.1 (by rw [if_pos (by decide), (f7 hk1).1]) (by rw [if_pos (by decide), (k5 hk1).1])
            · have hk1 : K.1 = 1 ∨ K.1 = 6 ∨ K.1 = 2 ∨ K.1 = 7 := by
                rcases hkc with h | ⟨h, -⟩ | ⟨-, h⟩
                · exact Or.inr (Or.inr (Or.inl h.symm))
                · exact absurd h (by decide)
                · exact Or.inr (Or.inr (Or.inr h))
              exact hfin (K.2.2.2 - K.2.2.1) (by rw [if_neg (by decide), if_pos (by decide), (f7 hk1).1, (f7 hk1).2]) (by rw [if_neg (by decide), if_pos (by decide), (k5 hk1).1, (k5 hk1).2])
            · exact absurd rfl h53
            · have hk1 : K.1 = 4 ∨ K.1 = 5 := by
                rcases hkc with h | ⟨h, -⟩ | ⟨h, -⟩
                · exact Or.inl h.symm
                · exact absurd h (by decide)
                · exact absurd h (by decide)
              exact hfin _ (by rw [if_neg (by decide), if_neg (by decide), if_neg (by decide), if_neg (by decide), f8 hk1]) (by rw [if_neg (by decide), if_neg (by decide), if_neg (by decide), if_pos (by decide), k4])
            · have hk1 : K.1 = 4 ∨ K.1 = 5 := by
                rcases hkc with h | ⟨h, -⟩ | ⟨h, -⟩
                · exact Or.inr h.symm
                · exact absurd h (by decide)
                · exact absurd h (by decide)
              exact hfin _ (by rw [if_neg (by decide), if_neg (by decide), if_neg (by decide), if_neg (by decide), f8 hk1]) (by rw [if_neg (by decide), if_neg (by decide), if_neg (by decide), if_neg (by decide), if_pos (by decide), k4])
            · have hk1 : K.1 = 1 ∨ K.1 = 6 ∨ K.1 = 2 ∨ K.1 = 7 := by
                rcases hkc with h | ⟨h, -⟩ | ⟨h, -⟩
                · exact Or.inr (Or.inl h.symm)
                · exact absurd h (by decide)
                · exact absurd h (by decide)
              exact hfin (20 + 8 * sz 0 - K.2.2.1) (by rw [if_neg (by decide), if_neg (by decide), if_pos (by decide), hlim, some_bind', (f7 hk1).1]) (by rw [if_neg (by decide), if_neg (by decide), if_neg (by decide), if_neg (by decide), if_neg (by decide), if_pos (by decide), hfall, some_bind', (k5 hk1).1])
            · have hk1 : K.1 = 1 ∨ K.1 = 6 ∨ K.1 = 2 ∨ K.1 = 7 := by
                rcases hkc with h | ⟨h, -⟩ | ⟨h, -⟩
                · exact Or.inr (Or.inr (Or.inr h.symm))
                · exact absurd h (by decide)
                · exact absurd h (by decide)
              exact hfin K.2.2.1 (by rw [if_neg (by decide), if_neg (by decide), if_neg (by decide), if_pos (by decide), (f7 hk1).1]) (by rw [if_neg (by decide), if_neg (by decide), if_neg (by decide), if_neg (by decide), if_neg (by decide), if_neg (by decide), (k5 hk1).1])
      · rw [e1, some_bind', if_pos rfl, q_found1, some_bind']
        refine ⟨_, _, _, rfl, ?_, dk_I_fn (f := 1) (by omega) hI⟩
        rw [e2 1 t a (by decide) ht ha, some_bind', if_neg n3neg]
    · simp only [if_neg h4, i_10, if_false]
      refine ⟨_, _, _, rfl, ?_, dk_I_up hI⟩
      rw [q_need_bad (Or.inl rfl), some_bind', if_neg n1neg]
  · rw [q_nG_f hg, some_bind', if_neg (show ¬ (1 : Int32) = 0 by decide)]
    refine ⟨_, _, _, rfl, ?_, dk_I_up hI⟩
    rw [q_need_bad (Or.inr hg), some_bind', if_neg n1neg]
