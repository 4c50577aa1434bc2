/-! mend -/
theorem v_mx : ∀ s : Fin 19, p_mx 0 (nI s.1 - 9) = nI (s.1 - 9) := by decide
theorem v_mn : ∀ s : Fin 19, p_mn 9 (nI s.1) = nI (min 9 s.1) := by decide
theorem v_in9 : ∀ (s : Fin 19) (i : Fin 10), (0 ≤ nI s.1 - nI i.1 ∧ nI s.1 - nI i.1 ≤ 9) ↔ (i.1 ≤ s.1 ∧ s.1 ≤ i.1 + 9) := by decide
def v_sz (sz : Nat → Int32) (s i : Nat) : Nat → Int32 := upd (upd sz 4 (nI i)) 5 (nI (s - i))
theorem v_sz_v (sz : Nat → Int32) (s i t j : Nat) : v_sz (v_sz sz s i) t j = v_sz sz t j := by
  funext q
  unfold v_sz
  simp only [upd_at]
  by_cases h2 : q = 5
  · rw [if_pos h2, if_pos h2]
  · rw [if_neg h2, if_neg h2, if_neg h2]
    by_cases h1 : q = 4
    · rw [if_pos h1, if_pos h1]
    · rw [if_neg h1, if_neg h1, if_neg h1]
theorem v_sz_ok {sz : Nat → Int32} (h : i_sz sz) {s i : Nat} (hi : i ≤ 9) (hs : s ≤ i + 9) : i_sz (v_sz sz s i) := by
  obtain ⟨a, b, c, d, x, y, e0, e1, e2, e3, e4, e5, h0, h1, h2, h3, h4, h5⟩ := h
  exact ⟨a, b, c, d, i, s - i, e0, e1, e2, e3, rfl, rfl, h0, h1, h2, h3, hi, by omega⟩
noncomputable def v_w (sz : Nat → Int32) (sl rb : Int32) (a s i : Nat) : Bool := g_w (c_P (v_sz sz s i) sl rb) a
noncomputable def v_1 (sz : Nat → Int32) (sl rb : Int32) (a s : Nat) : Nat → Nat → Option Nat
  | 0, _ => none
  | k + 1, i => if (i ≤ s ∧ s ≤ i + 9) ∧ v_w sz sl rb a s i = true then some i else v_1 sz sl rb a s k (i + 1)
noncomputable def v_2 (sz : Nat → Int32) (sl rb : Int32) (a : Nat) : Nat → Nat → Option (Nat × Nat)
  | 0, _ => none
  | k + 1, s => match v_1 sz sl rb a s 10 0 with
    | some i => some (s, i)
    | none => v_2 sz sl rb a k (s + 1)
theorem v_1_hi {sz : Nat → Int32} {sl rb : Int32} {a s : Nat} : ∀ k i, s < i → v_1 sz sl rb a s k i = none := by
  intro k
  induction k with
  | zero => intro i _; rfl
  | succ k ih => intro i h; rw [v_1, if_neg (by omega), ih _ (by omega)]
theorem v_1_lo {sz : Nat → Int32} {sl rb : Int32} {a s : Nat} : ∀ l i k, i + l + 9 ≤ s → v_1 sz sl rb a s (l + k) i = v_1 sz sl rb a s k (i + l) := by
  intro l
  induction l with
  | zero => intro i k _; rw [Nat.zero_add]; rfl
  | succ l ih => intro i k h; rw [Nat.succ_add, v_1, if_neg (by omega), ih _ _ (by omega), show i + 1 + l = i + (l + 1) by omega]
theorem v_1_le {sz : Nat → Int32} {sl rb : Int32} {a s j : Nat} : ∀ k i, v_1 sz sl rb a s k i = some j → j < i + k ∧ j ≤ s ∧ s ≤ j + 9 := by
  intro k
  induction k with
  | zero => intro i h; cases h
  | succ k ih =>
    intro i h
    rw [v_1] at h
    by_cases hc : (i ≤ s ∧ s ≤ i + 9) ∧ v_w sz sl rb a s i = true
    · rw [if_pos hc] at h
      cases h
      exact ⟨by omega, hc.1⟩
    · rw [if_neg hc] at h
      have := ih _ h
      exact ⟨by omega, this.2⟩
theorem e_mend1 {S0 : dk_S} {sz : Nat → Int32} {sl rb : Int32} {B : Int} {a s : Nat} {kx : (Int32 × dk_S) → Option (Int32 × dk_S)} {ky : dk_S → Option (Int32 × dk_S)} (hsz : i_sz sz) (hB2 : B ≤ 6900000000) (ha : a ≤ 99) (hs : s ≤ 18) : ∀ (m i : Nat) (z : Nat → Int32) (S : dk_S), i ≤ 10 → 10 - i < m → s ≤ i + 9 → c_T z rb S → (∀ s i, v_sz z s i = v_sz sz s i) → c_sm S0 S → c_ok (B + 401 * i) S →
    ∃ T z2, fX8_mend_L49 sl (nI a) (nI s) kx ky m (nI i) S = (match v_1 sz sl rb a s (10 - i) i with | some j => kx (nI j, T) | none => ky T) ∧ c_T z2 rb T ∧ (∀ s i, v_sz z2 s i = v_sz sz s i) ∧ c_sm S0 T ∧ c_ok (B + 401 * 10) T ∧ (∀ j, v_1 sz sl rb a s (10 - i) i = some j → T.1 16 3 = (g_K (c_P (v_sz sz s j) sl rb) a).2.2.1) := by
  intro m
  induction m with
  | zero => intro i z S h1 h2; omega
  | succ m ih =>
    intro i z S h1 h2 h3 hT hz hsm hok
    rw [fX8_mend_L49, q_min, some_bind', v_mn ⟨s, by omega⟩]
    by_cases hi : min 9 s < i
    · rw [if_pos (nI_lt hi (by omega))]
      have hv : v_1 sz sl rb a s (10 - i) i = none := by
        by_cases h9 : i = 10
        · rw [h9]; rfl
        · exact v_1_hi _ _ (by omega)
      rw [hv]
      exact ⟨S, z, rfl, hT, hz, hsm, hok.up (by omega), fun j h => by cases h⟩
    · rw [if_neg (nI_nlt (a := min 9 s) (b := i) (by omega) (by omega)), dk_lt_eq, dk_lt_eq, nI_sub (by omega)]
      have hT2 := (hT.set 4 (nI i)).set 5 (nI (s - i))
      have hw : upd (upd z 4 (nI i)) 5 (nI (s - i)) = v_sz sz s i := hz s i
      rw [hw] at hT2
      have hs2 := v_sz_ok hsz (s := s) (i := i) (by omega) (by omega)
      obtain ⟨T, f1, f2, f3, f4, -, f6⟩ := q_well sl hT2 (a_ok_sz hs2).2 hok.si.si (by omega) ha
      rw [f1, some_bind']
      have hsm2 := ((hsm.tr (c_sm.si (q := 19) (j := 4) (v := nI i) (by omega))).tr (c_sm.si (q := 19) (j := 5) (v := nI (s - i)) (by omega))).tr f3
      rw [show 10 - i = (10 - (i + 1)) + 1 by omega, v_1]
      unfold v_w
      dsimp only
      cases hb : g_w (c_P (v_sz sz s i) sl rb) a with
      | true =>
        rw [if_neg k_b_t, if_pos ⟨⟨by omega, h3⟩, rfl⟩]
        exact ⟨T, _, rfl, f2, fun t j => v_sz_v sz s i t j, hsm2, f4.up (by omega), fun j h => by cases h; exact f6 hb⟩
      | false =>
        rw [if_pos k_b_f, if_neg (fun g => by cases g.2), nI_1]
        exact ih (i + 1) _ T (by omega) (by omega) (by omega) f2 (fun t j => v_sz_v sz s i t j) hsm2 (f4.up (by omega))
theorem e_mend {S0 : dk_S} {sz : Nat → Int32} {sl rb : Int32} {B : Int} {a : Nat} {kx : (Int32 × Int32 × dk_S) → Option (Int32 × dk_S)} (hsz : i_sz sz) (hB2 : B ≤ 6000000000) (ha : a ≤ 99) : ∀ (m s : Nat) (z : Nat → Int32) (S : dk_S), s ≤ 19 → 19 - s < m → c_T z rb S → (∀ s i, v_sz z s i = v_sz sz s i) → c_sm S0 S → c_ok (B + 4010 * s) S →
    ∃ T, fX8_mend_L31 sl (nI a) kx m (nI s) S = (match v_2 sz sl rb a (19 - s) s with | some p => kx (nI p.1, nI p.2, T) | none => some (-9, T)) ∧ c_sm S0 T ∧ c_ok (B + 4010 * 19) T ∧ (∀ p, v_2 sz sl rb a (19 - s) s = some p → T.1 16 3 = (g_K (c_P (v_sz sz p.1 p.2) sl rb) a).2.2.1) := by
  intro m
  induction m with
  | zero => intro s z S h1 h2; omega
  | succ m ih =>
    intro s z S h1 h2 hT hz hsm hok
    rw [fX8_mend_L31]
    by_cases hs : s = 19
    · subst hs
      rw [if_pos (show (18 : Int32) < nI 19 from by decide)]
      exact ⟨S, rfl, hsm, hok.up (by omega), fun p h => by cases h⟩
    · rw [if_neg (show ¬ (18 : Int32) < nI s from fun g => by have := (nI_ltI (a := 18) (by omega) (by omega)).mp g; omega), q_max, some_bind', v_mx ⟨s, by omega⟩]
      obtain ⟨T, z2, f1, f2, f3, f4, f5, f6⟩ := e_mend1 (S0 := S0) (s := s) (B := B + 4010 * s) (sl := sl) (rb := rb) (kx := fun t9 : Int32 × dk_S => kx (nI s, t9.1, t9.2)) (ky := fun t10 : dk_S => fX8_mend_L31 sl (nI a) kx m (nI s + 1) t10) hsz (by omega) ha (by omega) dk_FU (s - 9) z S (by omega) (by have := dk_FU_ge; omega) (by omega) hT hz hsm (hok.up (by omega))
      rw [f1]
      have hv : v_1 sz sl rb a s (10 - (s - 9)) (s - 9) = v_1 sz sl rb a s 10 0 := by
        by_cases h9 : s ≤ 9
        · rw [show s - 9 = 0 by omega]
        · have := v_1_lo (sz := sz) (sl := sl) (rb := rb) (a := a) (s := s) (s - 9) 0 (10 - (s - 9)) (by omega)
          rw [show s - 9 + (10 - (s - 9)) = 10 by omega, Nat.zero_add] at this
          exact this.symm
      rw [hv] at f6 ⊢
      rw [show 19 - s = (19 - (s + 1)) + 1 by omega, v_2]
      cases hc : v_1 sz sl rb a s 10 0 with
      | some i => exact ⟨T, rfl, f4, f5.up (by omega), fun p h => by cases h; exact f6 i hc⟩
      | none =>
        dsimp only
        rw [nI_1]
        exact ih (s + 1) z2 T (by omega) (by omega) f2 f3 f4 (f5.up (by omega))
theorem e_mmend1 {S0 : dk_S} {sz : Nat → Int32} {sl rb : Int32} {a s : Nat} {kx : (Int32 × dk_S) → Option (Int32 × dk_S)} {ky : dk_S → Option (Int32 × dk_S)} (hsz : i_sz sz) (ha : a ≤ 99) (hs : s ≤ 18) : ∀ (m i : Nat) (z : Nat → Int32) (S : dk_S), i ≤ 10 → 10 - i < m → m_T z rb sl 0 0 S → (∀ s i, v_sz z s i = v_sz sz s i) → m_sm S0 S →
    ∃ T z2, fX9_mend_L33 (nI a) (nI s) kx ky m (nI i) S = (match v_1 sz sl rb a s (10 - i) i with | some j => kx (nI j, T) | none => ky T) ∧ m_T z2 rb sl 0 0 T ∧ (∀ s i, v_sz z2 s i = v_sz sz s i) ∧ m_sm S0 T ∧ (∀ j, v_1 sz sl rb a s (10 - i) i = some j → T.1 82 36 = (g_K (c_P (v_sz sz s j) sl rb) a).2.2.1) := by
  intro m
  induction m with
  | zero => intro i z S h1 h2; omega
  | succ m ih =>
    intro i z S h1 h2 hT hz hsm
    rw [fX9_mend_L33]
    by_cases hi : i = 10
    · subst hi
      rw [if_pos (show (9 : Int32) < nI 10 from by decide)]
      exact ⟨S, z, rfl, hT, hz, hsm, fun j h => by cases h⟩
    · rw [if_neg (show ¬ (9 : Int32) < nI i from fun g => by have := (nI_ltI (a := 9) (by omega) (by omega)).mp g; omega), q_in, some_bind', dk_lt_eq]
      rw [show 10 - i = (10 - (i + 1)) + 1 by omega, v_1]
      unfold v_w
      have hin := v_in9 ⟨s, by omega⟩ ⟨i, by omega⟩
      by_cases hr : i ≤ s ∧ s ≤ i + 9
      · rw [if_pos (hin.mpr hr), if_neg (show ¬ (1 : Int32) = 0 by decide), dk_lt_eq, dk_lt_eq, nI_sub hr.1]
        have hT2 := (hT.set 4 (nI i)).set 5 (nI (s - i))
        have hw : upd (upd z 4 (nI i)) 5 (nI (s - i)) = v_sz sz s i := hz s i
        rw [hw] at hT2
        have hs2 := v_sz_ok hsz (s := s) (i := i) (by omega) (by omega)
        obtain ⟨T, f1, f2, f3, -, -, f6⟩ := q_mwell hT2 (a_ok_sz hs2) ha
        rw [← a_P_c (a_ok_sz hs2)] at f1 f6
        have hsm2 := ((hsm.tr (m_sm.si (q := 95) (j := 4) (v := nI i) (by omega))).tr (m_sm.si (q := 95) (j := 5) (v := nI (s - i)) (by omega))).tr f3
        dsimp only
        rw [f1, some_bind']
        dsimp only
        cases hb : g_w (c_P (v_sz sz s i) sl rb) a with
        | true =>
          rw [if_neg k_b_t, if_pos ⟨hr, rfl⟩]
          exact ⟨T, _, rfl, f2, fun t j => v_sz_v sz s i t j, hsm2, fun j h => by cases h; exact f6 hb⟩
        | false =>
          rw [if_pos k_b_f, if_neg (fun g => by cases g.2), nI_1]
          exact ih (i + 1) _ T (by omega) (by omega) f2 (fun t j => v_sz_v sz s i t j) hsm2
      · rw [if_neg (fun g => hr (hin.mp g)), if_pos rfl, if_neg (fun g => hr g.1), nI_1]
        exact ih (i + 1) z S (by omega) (by omega) hT hz hsm
theorem e_mmend {S0 : dk_S} {sz : Nat → Int32} {sl rb : Int32} {a : Nat} {kx : (Int32 × Int32 × dk_S) → Option (Int32 × dk_S)} (hsz : i_sz sz) (ha : a ≤ 99) : ∀ (m s : Nat) (z : Nat → Int32) (S : dk_S), s ≤ 19 → 19 - s < m → m_T z rb sl 0 0 S → (∀ s i, v_sz z s i = v_sz sz s i) → m_sm S0 S →
    ∃ T, fX9_mend_L23 (nI a) kx m (nI s) S = (match v_2 sz sl rb a (19 - s) s with | some p => kx (nI p.1, nI p.2, T) | none => some (-9, T)) ∧ m_sm S0 T ∧ (∀ p, v_2 sz sl rb a (19 - s) s = some p → T.1 82 36 = (g_K (c_P (v_sz sz p.1 p.2) sl rb) a).2.2.1) := by
  intro m
  induction m with
  | zero => intro s z S h1 h2; omega
  | succ m ih =>
    intro s z S h1 h2 hT hz hsm
    rw [fX9_mend_L23]
    by_cases hs : s = 19
    · subst hs
      rw [if_pos (show (18 : Int32) < nI 19 from by decide)]
      exact ⟨S, rfl, hsm, fun p h => by cases h⟩
    · rw [if_neg (show ¬ (18 : Int32) < nI s from fun g => by have := (nI_ltI (a := 18) (by omega) (by omega)).mp g; omega)]
      obtain ⟨T, z2, f1, f2, f3, f4, f6⟩ := e_mmend1 (S0 := S0) (s := s) (sl := sl) (rb := rb) (kx := fun t6 : Int32 × dk_S => kx (nI s, t6.1, t6.2)) (ky := fun t7 : dk_S => fX9_mend_L23 (nI a) kx m (nI s + 1) t7) hsz ha (by omega) dk_FU 0 z S (by omega) (by have := dk_FU_ge; omega) hT hz hsm
      rw [nI_0] at f1
      rw [f1, show 19 - s = (19 - (s + 1)) + 1 by omega, v_2]
      cases hc : v_1 sz sl rb a s 10 0 with
      | some i => exact ⟨T, rfl, f4, fun p h => by cases h; exact f6 i hc⟩
      | none =>
        dsimp only
        rw [nI_1]
        exact ih (s + 1) z2 T (by omega) (by omega) f2 f3 f4
theorem pr_mend (a1 : Int32) (a2 : Int32) (a3 : Int32) (a4 : Int32) {n : Nat} {S : dk_S} (hn : n < 512) (hI : dk_I n S) : ∃ (r : Int32) (S1 S2 : dk_S), fX8_mend a1 a2 a3 a4 S = some (r, S1) ∧ fX9_mend a1 a2 a3 a4 S1 = some (r, S2) ∧ dk_I (n + 1) S2 := by
  unfold fX8_mend fX9_mend
  by_cases hg : h_g a1 a2 a3 a4
  · rw [q_nG_t hg, some_bind', if_pos rfl]
    obtain ⟨k, l, t, a, hk, hl, ht, ha, rfl, rfl, rfl, rfl⟩ := h_g_of hg
    rcases h_two hI hk hl with ⟨S1, sz, rb, e1, e2, e3, e4, e5, -, -, -, e8⟩ | ⟨e1, e2⟩
    · rw [e1, some_bind', if_neg (show ¬ (1 : Int32) = 0 by decide)]
      obtain ⟨T, f1, f2, f3, f4⟩ := e_mend (S0 := S) (sl := nI t) (rb := rb) (B := 10000000 * (n : Int)) (kx := fun t5 : Int32 × Int32 × dk_S => (fX8_tell (t5.2.2.1 16 3) t5.2.2).bind (fun r6 => some (((10 * t5.2.1) + t5.1) - t5.2.1, r6.2))) e5 (by omega) ha dk_FU 0 sz S1 (by omega) (by have := dk_FU_ge; omega) e2 (fun _ _ => rfl) e3 (((c_ok.of hI.2.2).c (by rw [e4]) (by rw [e4])).up (by omega))
      rw [nI_0] at f1
      rw [f1]
      have hm : ∀ G : dk_S, (∀ q, 82 < q → G.1 q = S.1 q) → ∃ S2 T2, fX9_need 1 (nI k) (nI l) (nI t) (nI a) G = some (0, S2) ∧ fX9_mend_L23 (nI a) (fun t3 : Int32 × Int32 × dk_S => (fX9_tells (t3.2.2.1 82 36) (((10 * t3.2.1) + t3.1) - t3.2.1) t3.2.2).bind (fun r4 => some (r4.1, r4.2))) dk_FU 0 S2 = (match v_2 sz (nI t) rb a (19 - 0) 0 with | some p => (fun t3 : Int32 × Int32 × dk_S => (fX9_tells (t3.2.2.1 82 36) (((10 * t3.2.1) + t3.1) - t3.2.1) t3.2.2).bind (fun r4 => some (r4.1, r4.2))) (nI p.1, nI p.2, T2) | none => some (-9, T2)) ∧ m_sm G T2 ∧ (∀ p, v_2 sz (nI t) rb a (19 - 0) 0 = some p → T2.1 82 36 = (g_K (c_P (v_sz sz p.1 p.2) (nI t) rb) a).2.2.1) := fun G hG => by
        obtain ⟨S2, g1, g2, g3⟩ := e8 G 1 t a (by decide) ht ha hG
        obtain ⟨T2, k1, k2, k3⟩ := e_mmend (S0 := G) (sl := nI t) (rb := rb) (kx := fun t3 : Int32 × Int32 × dk_S => (fX9_tells (t3.2.2.1 82 36) (((10 * t3.2.1) + t3.1) - t3.2.1) t3.2.2).bind (fun r4 => some (r4.1, r4.2))) e5 ha dk_FU 0 sz S2 (by omega) (by have := dk_FU_ge; omega) g2 (fun _ _ => rfl) g3
        exact ⟨S2, T2, g1, k1, k2, k3⟩
      cases hv : v_2 sz (nI t) rb a (19 - 0) 0 with
      | none =>
        obtain ⟨S2, T2, g1, k1, k2, k3⟩ := hm T (fun q hq => f2.1 q (by omega))
        rw [hv] at k1
        refine ⟨_, _, _, rfl, ?_, an_none hI f2 f3 (by omega) k2⟩
        rw [g1, some_bind', if_pos (show (0 : Int32) ≤ 0 by decide), k1]
      | some p =>
        obtain ⟨S2, T2, g1, k1, k2, k3⟩ := hm (dk_sr T 0 (upd (T.1 0) 12 (T.1 16 3))) (m_hi f2)
        rw [hv] at k1
        dsimp only
        rw [q_tell, some_bind']
        refine ⟨_, _, _, rfl, ?_, an_tell hI f2 f3 (by omega) k2⟩
        rw [g1, some_bind', if_pos (show (0 : Int32) ≤ 0 by decide), k1]
        dsimp only
        rw [q_tells, some_bind', k3 p hv, f4 p hv]
    · rw [e1, some_bind', if_pos rfl, q_found1, some_bind']
      refine ⟨_, _, _, rfl, ?_, dk_I_fn (f := 1) (by omega) hI⟩
      rw [e2 1 t a (by decide) ht ha, some_bind', if_neg n3neg]
  · rw [q_nG_f hg, some_bind', if_neg (show ¬ (1 : Int32) = 0 by decide)]
    refine ⟨_, _, _, rfl, ?_, dk_I_up hI⟩
    rw [q_need_bad (Or.inr hg), some_bind', if_neg n1neg]
