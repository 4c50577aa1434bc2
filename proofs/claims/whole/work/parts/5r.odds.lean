/-! limp and odds, in the model -/
theorem q_mo {S0 S : dk_S} {sz z : Nat → Int32} {rb sl : Int32} {r N c : Nat} {q : Nat → Nat} (hr : r < 6) (hN1 : 1 ≤ N) (hN : N ≤ 60) (hc : c < 1000) (hsz : i_sz sz) (hq : ∀ j, q j ≤ 99) (s84 : S0.1 84 r = nI N) (s85 : ∀ j, j < N → S0.1 85 (60 * r + j) = nI (q j)) (hz : ∀ j, j < 4 → z j = sz j) (hT : m_T z rb sl 0 0 S) (hsm : m_sm S0 S) : ∃ T, fX9_offTocks (nI r) (nI c / 10) (nI c - nI c / 10 * 10) S = some (nI (l_o sz rb q N c), T) ∧ m_T (l_sz sz (c % 10)) rb (nI (c / 10)) 0 0 T ∧ m_sm S0 T := by
  have hok : a_ok z := by
    have := a_ok_sz hsz
    unfold a_ok at this ⊢
    rw [hz 0 (by omega), hz 1 (by omega), hz 2 (by omega)]; exact this
  have d1 : nI c / 10 = nI (c / 10) := pk_div (d := 10) (by omega) (by omega) (by omega)
  have d2 : nI c - nI c / 10 * 10 = nI (c % 10) := pk_rem (d := 10) (by omega) (by omega) (by omega)
  rw [d2, d1]
  obtain ⟨T, t1, t2, t3⟩ := q_moff (S := S) (sl := nI (c / 10)) (ld := nI (c % 10)) (q := q) hr hN1 hN hok (fun j _ => hq j) (by rw [hsm.1 84 (by omega) (by omega)]; exact s84) (fun j hj => by rw [hsm.1 85 (by omega) (by omega)]; exact s85 j hj) hT
  rw [c_P_c (l_sz_cg hz (c % 10))] at t1
  exact ⟨T, t1, t2.cg (l_sz_cg hz (c % 10)), hsm.tr t3⟩
theorem l_sz4 (sz : Nat → Int32) (ld : Nat) : ∀ j, j < 4 → l_sz sz ld j = sz j := fun j hj => by unfold l_sz; rw [upd_ne _ _ (by omega), upd_ne _ _ (by omega)]
theorem e_mlimp {S0 : dk_S} {sz : Nat → Int32} {rb : Int32} {r N : Nat} {q : Nat → Nat} (hr : r < 6) (hN1 : 1 ≤ N) (hN : N ≤ 60) (hsz : i_sz sz) (hq : ∀ j, q j ≤ 99) (s84 : S0.1 84 r = nI N) (s85 : ∀ j, j < N → S0.1 85 (60 * r + j) = nI (q j)) : ∀ (m c : Nat) (z : Nat → Int32) (sl : Int32) (S : dk_S), c ≤ 1000 → 1000 - c < m → (∀ j, j < 4 → z j = sz j) → m_T z rb sl 0 0 S → m_sm S0 S →
    ∃ T, fX9_limp_L27 (nI r) m (if c = 0 then -9 else nI (g_s (l_o sz rb q N) c).2.1) (if c = 0 then 0 else nI (g_s (l_o sz rb q N) c).1) (nI c) S = some (nI (g_s (l_o sz rb q N) n_1000).2.1, dk_sr T 82 (upd (T.1 82) 2 (nI (g_s (l_o sz rb q N) n_1000).1))) ∧ m_sm S0 T := by
  have ho := l_o_lt (rb := rb) hsz hN1 hN hq
  intro m
  induction m with
  | zero => intro c z sl S h1 h2; omega
  | succ m ih =>
    intro c z sl S h1 h2 hz hT hsm
    rw [fX9_limp_L27]
    by_cases hi : c = 1000
    · have hn : n_1000 = c := by rw [n_1000_eq, hi]
      rw [if_pos (show (1000 : Int32) ≤ nI c from by rw [hi]; decide), if_neg (by omega), if_neg (by omega), q_tells, some_bind', hn]
      exact ⟨S, rfl, hsm⟩
    · rw [if_neg (show ¬ (1000 : Int32) ≤ nI c from fun g => by have := (nI_leI (a := 1000) (by omega) (by omega)).mp g; omega)]
      obtain ⟨A, a1, a2, a3⟩ := q_mo (c := c) hr hN1 hN (by omega) hsz hq s84 s85 hz hT hsm
      rw [a1, some_bind']
      simp only [dk_lt_eq, nI_1]
      have hnext := ih (c + 1) (l_sz sz (c % 10)) (nI (c / 10)) A (by omega) (by omega) (l_sz4 sz _) a2 a3
      rw [if_neg (show ¬ c + 1 = 0 by omega), if_neg (show ¬ c + 1 = 0 by omega)] at hnext
      obtain ⟨b1, b2, b3, b4, b5, b6⟩ := g_s_b ho c
      have hoc := ho c
      have hs : g_s (l_o sz rb q N) (c + 1) = if l_o sz rb q N c < (g_s (l_o sz rb q N) c).1 then (l_o sz rb q N c, c, 1, if c % 10 = 0 then 0 else 1) else if l_o sz rb q N c = (g_s (l_o sz rb q N) c).1 then ((g_s (l_o sz rb q N) c).1, (g_s (l_o sz rb q N) c).2.1, (g_s (l_o sz rb q N) c).2.2.1 + 1, (g_s (l_o sz rb q N) c).2.2.2 + (if c % 10 = 0 then 0 else 1)) else g_s (l_o sz rb q N) c := by rw [g_s]
      by_cases h0 : c = 0
      · subst h0
        rw [if_pos (show (l_o sz rb q N 0) < (g_s (l_o sz rb q N) 0).1 from hoc)] at hs
        rw [hs] at hnext
        rw [if_pos rfl, if_pos rfl]
        exact hnext
      · rw [if_neg h0, if_neg h0, if_neg (nI_m9 (by omega))]
        have b6' := b6 (by omega)
        by_cases g1 : l_o sz rb q N c < (g_s (l_o sz rb q N) c).1
        · rw [if_pos g1] at hs
          rw [hs] at hnext
          rw [if_neg (fun g => by have := (nI_leI (by omega) (by omega)).mp g; omega)]
          exact hnext
        · rw [if_neg g1] at hs
          rw [if_pos ((nI_leI (by omega) (by omega)).mpr (by omega))]
          by_cases g2 : l_o sz rb q N c = (g_s (l_o sz rb q N) c).1
          · rw [if_pos g2] at hs
            rw [hs] at hnext
            exact hnext
          · rw [if_neg g2] at hs
            rw [hs] at hnext
            exact hnext
theorem e_modds {S0 : dk_S} {sz : Nat → Int32} {rb : Int32} {r N : Nat} {q : Nat → Nat} (hr : r < 6) (hN1 : 1 ≤ N) (hN : N ≤ 60) (hsz : i_sz sz) (hq : ∀ j, q j ≤ 99) (s84 : S0.1 84 r = nI N) (s85 : ∀ j, j < N → S0.1 85 (60 * r + j) = nI (q j)) (kx : (Int32 × Int32 × dk_S) → Option (Int32 × dk_S)) : ∀ (m c : Nat) (z : Nat → Int32) (sl : Int32) (S : dk_S), c ≤ 1000 → 1000 - c < m → (∀ j, j < 4 → z j = sz j) → m_T z rb sl 0 0 S → m_sm S0 S →
    ∃ T, fX9_odds_L30 (nI r) kx m (if c = 0 then -9 else nI (g_s (l_o sz rb q N) c).1) (nI (g_s (l_o sz rb q N) c).2.2.1) (nI (g_s (l_o sz rb q N) c).2.2.2) (nI c) S = kx (nI (g_s (l_o sz rb q N) n_1000).2.2.1, nI (g_s (l_o sz rb q N) n_1000).2.2.2, T) ∧ m_sm S0 T := by
  have ho := l_o_lt (rb := rb) hsz hN1 hN hq
  intro m
  induction m with
  | zero => intro c z sl S h1 h2; omega
  | succ m ih =>
    intro c z sl S h1 h2 hz hT hsm
    rw [fX9_odds_L30]
    by_cases hi : c = 1000
    · have hn : n_1000 = c := by rw [n_1000_eq, hi]
      rw [if_pos (show (1000 : Int32) ≤ nI c from by rw [hi]; decide), hn]
      exact ⟨S, rfl, hsm⟩
    · rw [if_neg (show ¬ (1000 : Int32) ≤ nI c from fun g => by have := (nI_leI (a := 1000) (by omega) (by omega)).mp g; omega)]
      obtain ⟨A, a1, a2, a3⟩ := q_mo (c := c) hr hN1 hN (by omega) hsz hq s84 s85 hz hT hsm
      have d2 : nI c - nI c / 10 * 10 = nI (c % 10) := pk_rem (d := 10) (by omega) (by omega) (by omega)
      have hl0 : (nI (c % 10) ≤ 0) ↔ c % 10 = 0 := by
        rw [show (0 : Int32) = nI 0 from rfl, nI_leI (by omega) (by omega)]; omega
      rw [a1, some_bind']
      simp only [dk_lt_eq, nI_1, d2]
      have hnext := ih (c + 1) (l_sz sz (c % 10)) (nI (c / 10)) A (by omega) (by omega) (l_sz4 sz _) a2 a3
      rw [if_neg (show ¬ c + 1 = 0 by omega)] at hnext
      obtain ⟨b1, b2, b3, b4, b5, b6⟩ := g_s_b ho c
      have hoc := ho c
      have hs : g_s (l_o sz rb q N) (c + 1) = if l_o sz rb q N c < (g_s (l_o sz rb q N) c).1 then (l_o sz rb q N c, c, 1, if c % 10 = 0 then 0 else 1) else if l_o sz rb q N c = (g_s (l_o sz rb q N) c).1 then ((g_s (l_o sz rb q N) c).1, (g_s (l_o sz rb q N) c).2.1, (g_s (l_o sz rb q N) c).2.2.1 + 1, (g_s (l_o sz rb q N) c).2.2.2 + (if c % 10 = 0 then 0 else 1)) else g_s (l_o sz rb q N) c := by rw [g_s]
      have hld : (if nI (c % 10) ≤ 0 then (0 : Int32) else 1) = nI (if c % 10 = 0 then 0 else 1) := by
        by_cases g0 : c % 10 = 0
        · rw [if_pos (hl0.mpr g0), if_pos g0]; rfl
        · rw [if_neg (fun q => g0 (hl0.mp q)), if_neg g0]; rfl
      rw [hld]
      have hnew : l_o sz rb q N c < (g_s (l_o sz rb q N) c).1 → ∃ T, fX9_odds_L30 (nI r) kx m (nI (l_o sz rb q N c)) (0 + (if True then 1 else 0)) (0 + (if True then nI (if c % 10 = 0 then 0 else 1) else 0)) (nI (c + 1)) A = kx (nI (g_s (l_o sz rb q N) n_1000).2.2.1, nI (g_s (l_o sz rb q N) n_1000).2.2.2, T) ∧ m_sm S0 T := fun g1 => by
        rw [if_pos g1] at hs
        rw [hs] at hnext
        rw [if_pos trivial, if_pos trivial, Int32.zero_add, Int32.zero_add]
        exact hnext
      by_cases h0 : c = 0
      · subst h0
        rw [if_pos rfl, if_pos rfl]
        exact hnew hoc
      · rw [if_neg h0, if_neg (nI_m9 (by omega))]
        have b6' := b6 (by omega)
        by_cases g1 : l_o sz rb q N c < (g_s (l_o sz rb q N) c).1
        · rw [if_neg (fun g => by have := (nI_leI (by omega) (by omega)).mp g; omega)]
          exact hnew g1
        · rw [if_neg g1] at hs
          rw [if_pos ((nI_leI (by omega) (by omega)).mpr (by omega))]
          by_cases g2 : l_o sz rb q N c = (g_s (l_o sz rb q N) c).1
          · rw [if_pos g2] at hs
            rw [hs] at hnext
            rw [if_pos (by rw [g2]), if_pos (by rw [g2]), nI_add, nI_1]
            exact hnext
          · rw [if_neg g2] at hs
            rw [hs] at hnext
            rw [if_neg (fun g => g2 ((nI_eq (by omega) (by omega)).mp g)), if_neg (fun g => g2 ((nI_eq (by omega) (by omega)).mp g)), Int32.add_zero, Int32.add_zero]
            exact hnext
/-- tocks as numbers, whatever stands behind them -/
def t_q (S : dk_S) (r j : Nat) : Nat := if (S.1 85 (60 * r + j)).toNatClampNeg ≤ 99 then (S.1 85 (60 * r + j)).toNatClampNeg else 0
theorem t_q_le (S : dk_S) (r j : Nat) : t_q S r j ≤ 99 := by
  unfold t_q
  by_cases h : (S.1 85 (60 * r + j)).toNatClampNeg ≤ 99
  · rw [if_pos h]; exact h
  · rw [if_neg h]; omega
theorem t_q_eq {S : dk_S} {r j p : Nat} (hp : p ≤ 99) (h : S.1 85 (60 * r + j) = nI p) : S.1 85 (60 * r + j) = nI (t_q S r j) := by
  unfold t_q
  rw [h, nI_clamp (by omega), if_pos hp]
theorem pr_limp (a1 : Int32) (a2 : Int32) (a3 : Int32) {n : Nat} {S : dk_S} (hn : n < 512) (hI : dk_I n S) : ∃ (r : Int32) (S1 S2 : dk_S), fX8_limp a1 a2 a3 S = some (r, S1) ∧ fX9_limp a1 a2 a3 S1 = some (r, S2) ∧ dk_I (n + 1) S2 := by
  unfold fX8_limp fX9_limp
  by_cases hg : (0 ≤ a1 ∧ a1 ≤ 3) ∧ (0 ≤ a2 ∧ a2 ≤ 3) ∧ (0 ≤ a3 ∧ a3 ≤ 5)
  · obtain ⟨k, hk, rfl⟩ := b_4 hg.1
    obtain ⟨l, hl, rfl⟩ := b_4 hg.2.1
    obtain ⟨r, hr, rfl⟩ := b_row hg.2.2
    rcases h_tocks hI hk hl hr with ⟨N, S1, sz, rb, n1, n2, n3, e1, e2, e3, e4, e5, e6, e7⟩ | ⟨f, S1, f1, e1, e2, e3, e4⟩
    · obtain ⟨r1, -, r3⟩ := hI.2.1.1 r hr
      have s85 : ∀ j, j < N → S.1 85 (60 * r + j) = nI (t_q S r j) := fun j hj => by
        obtain ⟨p, hp, e⟩ := e6 j hj
        exact t_q_eq hp e
      obtain ⟨T, t1, tJ⟩ := q_search (q := t_q S r) hr (by omega) n2 e5 (t_q_le S r) (by rw [r1]; exact n3) (fun j hj => by rw [r3 j (by omega)]; exact s85 j hj) e2 e3 e4
      have ho := l_o_lt (rb := rb) e5 (show 1 ≤ N by omega) n2 (t_q_le S r)
      have hn1 : 1 ≤ n_1000 := by rw [n_1000_eq]; omega
      rw [e1, some_bind', if_pos rfl, dI_in hr (by omega), dk_gd_t, nI_clamp (by omega), t1, some_bind', q_tell, some_bind', tJ.2.1.1]
      have hsm := tJ.sm
      have hI2 := dk_I_29 (T.1 29) hI
      have hG : ∀ v : Int32, ∀ q, 82 < q → (dk_sr T 0 (upd (T.1 0) 12 v)).1 q = S.1 q := fun v q hq => by rw [dk_sr_ne _ _ (by omega)]; exact tJ.2.2.1 q (by omega)
      obtain ⟨S2, p1, p2, p3⟩ := e7 _ (hG (nI (g_s (l_o sz rb (t_q S r) N) n_1000).1))
      obtain ⟨V, v1, v2⟩ := e_mlimp (S0 := dk_sr T 0 (upd (T.1 0) 12 (nI (g_s (l_o sz rb (t_q S r) N) n_1000).1))) (q := t_q S r) hr (show 1 ≤ N by omega) n2 e5 (t_q_le S r) (by rw [hG _ 84 (by omega)]; exact n3) (fun j hj => by rw [hG _ 85 (by omega)]; exact s85 j hj) dk_FU 0 sz 0 S2 (by omega) (by have := dk_FU_ge; omega) (fun _ _ => rfl) p2 p3
      rw [if_pos rfl, if_pos rfl, nI_0] at v1
      have hok0 : c_ok (10000000 * (n : Int)) T := (c_ok.of hI.2.2).c (by rw [tJ.2.2.2]) (by rw [tJ.2.2.2])
      refine ⟨_, _, _, rfl, ?_, an_tell hI2 hsm hok0 (by omega) v2⟩
      rw [p1, some_bind', if_pos (show (0 : Int32) ≤ 0 by decide), v1]
      dsimp only
      rw [dk_sr_ne _ _ (by omega : ¬ 29 = 0), (tJ.2.1.2 hn1).1]
    · rw [e1, some_bind', if_neg (show ¬ (-3 : Int32) = 0 by decide)]
      refine ⟨_, _, _, rfl, ?_, an_fn f1 hI e2 ((c_ok.of hI.2.2).c (by rw [e3]) (by rw [e3])) (by omega) (m_sm.rf _)⟩
      rw [e4, some_bind', if_neg n3neg]
  · obtain ⟨h1, -⟩ := h_tk_bad hg S
    rw [h1, some_bind', if_neg (show ¬ (-1 : Int32) = 0 by decide)]
    refine ⟨_, _, _, rfl, ?_, dk_I_up hI⟩
    rw [(h_tk_bad hg S).2, some_bind', if_neg n1neg]
theorem pr_odds (a1 : Int32) (a2 : Int32) (a3 : Int32) {n : Nat} {S : dk_S} (hn : n < 512) (hI : dk_I n S) : ∃ (r : Int32) (S1 S2 : dk_S), fX8_odds a1 a2 a3 S = some (r, S1) ∧ fX9_odds a1 a2 a3 S1 = some (r, S2) ∧ dk_I (n + 1) S2 := by
  unfold fX8_odds fX9_odds
  by_cases hg : (0 ≤ a1 ∧ a1 ≤ 3) ∧ (0 ≤ a2 ∧ a2 ≤ 3) ∧ (0 ≤ a3 ∧ a3 ≤ 5)
  · obtain ⟨k, hk, rfl⟩ := b_4 hg.1
    obtain ⟨l, hl, rfl⟩ := b_4 hg.2.1
    obtain ⟨r, hr, rfl⟩ := b_row hg.2.2
    rcases h_tocks hI hk hl hr with ⟨N, S1, sz, rb, n1, n2, n3, e1, e2, e3, e4, e5, e6, e7⟩ | ⟨f, S1, f1, e1, e2, e3, e4⟩
    · obtain ⟨r1, -, r3⟩ := hI.2.1.1 r hr
      have s85 : ∀ j, j < N → S.1 85 (60 * r + j) = nI (t_q S r j) := fun j hj => by
        obtain ⟨p, hp, e⟩ := e6 j hj
        exact t_q_eq hp e
      obtain ⟨T, t1, tJ⟩ := q_search (q := t_q S r) hr (by omega) n2 e5 (t_q_le S r) (by rw [r1]; exact n3) (fun j hj => by rw [r3 j (by omega)]; exact s85 j hj) e2 e3 e4
      have ho := l_o_lt (rb := rb) e5 (show 1 ≤ N by omega) n2 (t_q_le S r)
      have hn1 : 1 ≤ n_1000 := by rw [n_1000_eq]; omega
      obtain ⟨b1, b2, b3, b4, b5, b6⟩ := g_s_b ho n_1000
      have b5' := b5 hn1
      rw [n_1000_eq] at hn1
      have hle : n_1000 ≤ 1000 := by rw [n_1000_eq]; exact Nat.le_refl _
      obtain ⟨k1, k2, k3⟩ := tJ.2.1.2 (by rw [n_1000_eq]; omega)
      obtain ⟨w, hw⟩ : ∃ w, w = (g_s (l_o sz rb (t_q S r) N) n_1000).2.2.2 := ⟨_, rfl⟩
      obtain ⟨c, hc⟩ : ∃ c, c = (g_s (l_o sz rb (t_q S r) N) n_1000).2.2.1 := ⟨_, rfl⟩
      rw [← hw] at k3 b4
      rw [← hc] at k2 b3 b5'
      rw [e1, some_bind', if_pos rfl, dI_in hr (by omega), dk_gd_t, nI_clamp (by omega), t1, some_bind', k2, k3, q_frac (by omega) (by omega) b5', some_bind']
      have hsm := tJ.sm
      have hI2 := dk_I_29 (T.1 29) hI
      have hG : ∀ q, 82 < q → (dk_sl (dk_sl T 0 13 (lN (w / Nat.gcd w c))) 0 14 (lN (c / Nat.gcd w c))).1 q = S.1 q := fun q hq => by rw [dk_sl_1, dk_sl_1]; exact tJ.2.2.1 q (by omega)
      obtain ⟨S2, p1, p2, p3⟩ := e7 _ hG
      obtain ⟨V, v1, v2⟩ := e_modds (S0 := dk_sl (dk_sl T 0 13 (lN (w / Nat.gcd w c))) 0 14 (lN (c / Nat.gcd w c))) (q := t_q S r) hr (show 1 ≤ N by omega) n2 e5 (t_q_le S r) (by rw [hG 84 (by omega)]; exact n3) (fun j hj => by rw [hG 85 (by omega)]; exact s85 j hj) (fun t3 : Int32 × Int32 × dk_S => (fX9_fraction t3.2.1.toInt64 t3.1.toInt64 t3.1 t3.2.2).bind (fun r4 => some (r4.1, r4.2))) dk_FU 0 sz 0 S2 (by omega) (by have := dk_FU_ge; omega) (fun _ _ => rfl) p2 p3
      rw [if_pos rfl, nI_0, ← hw, ← hc] at v1
      dsimp only at v1
      rw [nI_l (by omega), nI_l (by omega), q_mfrac (by omega) (by omega) b5', some_bind'] at v1
      have hok0 : c_ok (10000000 * (n : Int)) T := (c_ok.of hI.2.2).c (by rw [tJ.2.2.2]) (by rw [tJ.2.2.2])
      have v1' : fX9_odds_L30 (nI r) _ dk_FU (-9) 0 0 0 S2 = _ := v1
      refine ⟨_, _, _, rfl, ?_, an_frac hI2 hsm hok0 (by omega) v2⟩
      rw [p1, some_bind', if_pos (show (0 : Int32) ≤ 0 by decide), v1', dk_sl_1, dk_sl_1, k2]
    · rw [e1, some_bind', if_neg (show ¬ (-3 : Int32) = 0 by decide)]
      refine ⟨_, _, _, rfl, ?_, an_fn f1 hI e2 ((c_ok.of hI.2.2).c (by rw [e3]) (by rw [e3])) (by omega) (m_sm.rf _)⟩
      rw [e4, some_bind', if_neg n3neg]
  · obtain ⟨h1, -⟩ := h_tk_bad hg S
    rw [h1, some_bind', if_neg (show ¬ (-1 : Int32) = 0 by decide)]
    refine ⟨_, _, _, rfl, ?_, dk_I_up hI⟩
    rw [(h_tk_bad hg S).2, some_bind', if_neg n1neg]
