/-! made -/
def vq_A (sz : Nat → Int32) (i : Nat) : Int32 := (sz 0 + nI (i / 9)) - 1
def vq_B (sz : Nat → Int32) (i : Nat) : Int32 := (sz 1 + nI (i / 3 % 3)) - 1
def vq_C (sz : Nat → Int32) (i : Nat) : Int32 := (sz 2 + nI (i % 3)) - 1
def vq_sz (sz : Nat → Int32) (i : Nat) : Nat → Int32 := upd (upd (upd sz 0 (vq_A sz i)) 1 (vq_B sz i)) 2 (vq_C sz i)
def vq_ok (sz : Nat → Int32) (i : Nat) : Bool := decide ((1 ≤ vq_A sz i ∧ vq_A sz i ≤ 9) ∧ (1 ≤ vq_B sz i ∧ vq_B sz i ≤ 9) ∧ (1 ≤ vq_C sz i ∧ vq_C sz i ≤ 9))
theorem c_T.cg {f g : Nat → Int32} {rb : Int32} {S : dk_S} (h : c_T f rb S) (e : ∀ j, j < 6 → f j = g j) : c_T g rb S := ⟨fun j hj => (h.1 j hj).trans (e j hj), h.2⟩
theorem m_T.cg {f g : Nat → Int32} {rb sl p0 p1 : Int32} {S : dk_S} (h : m_T f rb sl p0 p1 S) (e : ∀ j, j < 6 → f j = g j) : m_T g rb sl p0 p1 S := ⟨fun j hj => (h.1 j hj).trans (e j hj), h.2⟩
theorem b_19 {x : Int32} (h : 1 ≤ x ∧ x ≤ 9) : ∃ a, (1 ≤ a ∧ a ≤ 9) ∧ x = nI a := by
  obtain ⟨j, hj, rfl⟩ := dI_of (n := 9) (by omega) (by have := h.1; rw [i32_le] at this ⊢; rw [show (1 : Int32).toInt = 1 from rfl] at this; rw [show (0 : Int32).toInt = 0 from rfl]; omega) h.2
  exact ⟨j, ⟨(nI_leI (a := 1) (by omega) (by omega)).mp h.1, hj⟩, rfl⟩
theorem vq_sz_ok {sz : Nat → Int32} {i : Nat} (h : i_sz sz) (hok : vq_ok sz i = true) : i_sz (vq_sz sz i) := by
  obtain ⟨hA, hB, hC⟩ := of_decide_eq_true hok
  obtain ⟨a, ha, ea⟩ := b_19 hA
  obtain ⟨b, hb, eb⟩ := b_19 hB
  obtain ⟨c, hc, ec⟩ := b_19 hC
  unfold vq_sz
  rw [ea, eb, ec]
  exact ((h.set ha).set hb).set hc
theorem i_div {i : Nat} (hi : i < 27) : nI i / 9 = nI (i / 9) ∧ (nI i / 3) - (nI i / 3) / 3 * 3 = nI (i / 3 % 3) ∧ nI i - nI i / 3 * 3 = nI (i % 3) := by
  refine ⟨pk_div (d := 9) (by omega) (by omega) (by omega), ?_, pk_rem (d := 3) (by omega) (by omega) (by omega)⟩
  rw [show nI i / 3 = nI (i / 3) from pk_div (d := 3) (by omega) (by omega) (by omega)]
  exact pk_rem (d := 3) (by omega) (by omega) (by omega)
theorem i_asb (a b c : Int32) : a + (b - c) = (a + b) - c := by rw [Int32.sub_eq_add_neg, Int32.sub_eq_add_neg, Int32.add_assoc]
theorem n_c_pos {f : Nat → Bool} : ∀ (k s s0 : Nat), s ≤ s0 → s0 < s + k → f s0 = true → 1 ≤ n_c f k s := by
  intro k
  induction k with
  | zero => intro s s0 h1 h2 h3; omega
  | succ k ih =>
    intro s s0 h1 h2 h3
    rw [n_c]
    by_cases h : s0 = s
    · subst h; rw [if_pos h3]; omega
    · have := ih (s + 1) s0 (by omega) (by omega) h3; omega
theorem q_shape (A B C : Int32) (S : dk_S) : fX1_shape 18 A B C S = some (dk_si (dk_si (dk_si S 19 0 A) 19 1 B) 19 2 C) := rfl
theorem e_cmade {S0 : dk_S} {sz : Nat → Int32} {rb sl : Int32} {k a : Nat} {B : Int} (hk : k < 4) (hsz : i_sz sz) (h52 : S0.1 (52 + 2 * k) = sz) (hB2 : B ≤ 7000000000) (ha : a ≤ 99) : ∀ (m i c w : Nat) (z : Nat → Int32) (S : dk_S), i ≤ 27 → 27 - i < m → (∀ j, 3 ≤ j → j < 6 → z j = sz j) → c_T z rb S → c_sm S0 S → c_ok (B + 401 * (i : Int)) S →
    ∃ T, fX8_made_L48 sl (nI a) (51 + 2 * k + 1) m (nI c) (nI w) (nI i) S = (fX8_tellFraction (nI (w + n_c (fun j => vq_ok sz j && g_w (c_P (vq_sz sz j) sl rb) a) (27 - i) i)) (nI (c + n_c (vq_ok sz) (27 - i) i)) T).bind (fun r7 => some (nI (c + n_c (vq_ok sz) (27 - i) i), r7)) ∧ c_sm S0 T ∧ c_ok (B + 401 * 27) T := by
  intro m
  induction m with
  | zero => intro i c w z S h1 h2; omega
  | succ m ih =>
    intro i c w z S h1 h2 hz hT hsm hok
    rw [fX8_made_L48]
    by_cases hi : i = 27
    · subst hi
      rw [if_pos (show (27 : Int32) ≤ nI 27 from by decide)]
      exact ⟨S, rfl, hsm, hok.up (by omega)⟩
    · obtain ⟨d1, d2, d3⟩ := i_div (show i < 27 by omega)
      have e52 : S.1 (51 + 2 * k + 1) = sz := by rw [show 51 + 2 * k + 1 = 52 + 2 * k by omega, hsm.1 _ (by omega), h52]
      rw [if_neg (show ¬ (27 : Int32) ≤ nI i from fun q => by have := (nI_leI (a := 27) (by omega) (by omega)).mp q; omega), dk_lt_eq, dk_lt_eq, dk_lt_eq, d1, d2, d3, e52]
      rw [show (sz 0 + nI (i / 9)) - 1 = vq_A sz i from rfl, show (sz 1 + nI (i / 3 % 3)) - 1 = vq_B sz i from rfl, show (sz 2 + nI (i % 3)) - 1 = vq_C sz i from rfl]
      simp only [q_isOutside, some_bind', dk_lt_eq, nI_1]
      have hk27 : 27 - i = (27 - (i + 1)) + 1 := by omega
      rw [hk27, n_c, n_c]
      have hno : vq_ok sz i = false → ∃ T, fX8_made_L48 sl (nI a) (51 + 2 * k + 1) m (nI c) (nI w) (nI (i + 1)) S = (fX8_tellFraction (nI (w + ((if (vq_ok sz i && g_w (c_P (vq_sz sz i) sl rb) a) = true then 1 else 0) + n_c (fun j => vq_ok sz j && g_w (c_P (vq_sz sz j) sl rb) a) (27 - (i + 1)) (i + 1)))) (nI (c + ((if vq_ok sz i = true then 1 else 0) + n_c (vq_ok sz) (27 - (i + 1)) (i + 1)))) T).bind (fun r7 => some (nI (c + ((if vq_ok sz i = true then 1 else 0) + n_c (vq_ok sz) (27 - (i + 1)) (i + 1))), r7)) ∧ c_sm S0 T ∧ c_ok (B + 401 * 27) T := fun hv => by
        rw [hv]
        simp only [Bool.false_and, Bool.false_eq_true, if_false, Nat.zero_add]
        exact ih (i + 1) c w z S (by omega) (by omega) hz hT hsm (hok.up (by omega))
      by_cases hA : 1 ≤ vq_A sz i ∧ vq_A sz i ≤ 9
      · simp only [if_pos hA, if_true]
        by_cases hB : 1 ≤ vq_B sz i ∧ vq_B sz i ≤ 9
        · simp only [if_pos hB, if_true]
          by_cases hC : 1 ≤ vq_C sz i ∧ vq_C sz i ≤ 9
          · simp only [if_pos hC, if_true]
            have hv : vq_ok sz i = true := decide_eq_true ⟨hA, hB, hC⟩
            have hs := vq_sz_ok hsz hv
            rw [q_shape, some_bind']
            have hT2 : c_T (vq_sz sz i) rb (dk_si (dk_si (dk_si S 19 0 (vq_A sz i)) 19 1 (vq_B sz i)) 19 2 (vq_C sz i)) := (((hT.set 0 (vq_A sz i)).set 1 (vq_B sz i)).set 2 (vq_C sz i)).cg (fun j hj => by
              unfold vq_sz
              simp only [upd_at]
              by_cases j2 : j = 2
              · rw [if_pos j2, if_pos j2]
              · rw [if_neg j2, if_neg j2]
                by_cases j1 : j = 1
                · rw [if_pos j1, if_pos j1]
                · rw [if_neg j1, if_neg j1]
                  by_cases j0 : j = 0
                  · rw [if_pos j0, if_pos j0]
                  · rw [if_neg j0, if_neg j0]; exact hz j (by omega) hj)
            have hsm2 : c_sm S (dk_si (dk_si (dk_si S 19 0 (vq_A sz i)) 19 1 (vq_B sz i)) 19 2 (vq_C sz i)) := ((c_sm.si (by omega)).tr (c_sm.si (by omega))).tr (c_sm.si (by omega))
            obtain ⟨T, f1, f2, f3, f4, -⟩ := q_well sl hT2 (a_ok_sz hs).2 (hok.c rfl rfl) (by omega) ha
            rw [f1, some_bind', hv]
            simp only [Bool.true_and, if_true]
            have hz2 : ∀ j, 3 ≤ j → j < 6 → vq_sz sz i j = sz j := fun j j3 j6 => by unfold vq_sz; rw [upd_ne _ _ (by omega), upd_ne _ _ (by omega), upd_ne _ _ (by omega)]
            cases hw : g_w (c_P (vq_sz sz i) sl rb) a with
            | true =>
              rw [if_neg k_b_t]
              obtain ⟨T2, g1, g2, g3⟩ := ih (i + 1) (c + 1) (w + 1) (vq_sz sz i) T (by omega) (by omega) hz2 f2 ((hsm.tr hsm2).tr f3) (f4.up (by omega))
              refine ⟨T2, ?_, g2, g3⟩
              rw [g1]
              simp only [if_true, Nat.add_assoc]
            | false =>
              rw [if_pos k_b_f]
              obtain ⟨T2, g1, g2, g3⟩ := ih (i + 1) (c + 1) w (vq_sz sz i) T (by omega) (by omega) hz2 f2 ((hsm.tr hsm2).tr f3) (f4.up (by omega))
              refine ⟨T2, ?_, g2, g3⟩
              rw [g1]
              simp only [Bool.false_eq_true, if_false, Nat.add_assoc, Nat.zero_add]
          · simp only [if_neg hC, i_10, if_false]
            exact hno (decide_eq_false (fun q => hC q.2.2))
        · simp only [if_neg hB, i_10, if_false]
          exact hno (decide_eq_false (fun q => hB q.2.1))
      · simp only [if_neg hA, i_10, if_false]
        exact hno (decide_eq_false (fun q => hA q.1))
theorem e_mmade {S0 : dk_S} {sz : Nat → Int32} {rb sl : Int32} {k l a : Nat} (hk : k < 4) (hl : l < 4) (hsz : i_sz sz) (h90 : ∀ j, j < 6 → S0.1 90 (7 * k + j) = sz j) (h92 : S0.1 92 (101 * l) = rb) (ha : a ≤ 99) (kx : (Int32 × Int32 × dk_S) → Option (Int32 × dk_S)) : ∀ (m i c w : Nat) (S : dk_S), i ≤ 27 → 27 - i < m → m_sm S0 S →
    ∃ T, fX9_made_L29 (nI k) (nI l) sl (nI a) kx m (nI c) (nI w) (nI i) S = kx (nI (c + n_c (vq_ok sz) (27 - i) i), nI (w + n_c (fun j => vq_ok sz j && g_w (c_P (vq_sz sz j) sl rb) a) (27 - i) i), T) ∧ m_sm S0 T := by
  intro m
  induction m with
  | zero => intro i c w S h1 h2; omega
  | succ m ih =>
    intro i c w S h1 h2 hsm
    rw [fX9_made_L29]
    by_cases hi : i = 27
    · subst hi
      rw [if_pos (show (27 : Int32) ≤ nI 27 from by decide)]
      exact ⟨S, rfl, hsm⟩
    · obtain ⟨d1, d2, d3⟩ := i_div (show i < 27 by omega)
      obtain ⟨L, l1, l2, l3, -⟩ := q_looksAt (S := S) hk hl sl
      rw [hsm.1 90 (by omega) (by omega), hsm.1 92 (by omega) (by omega), h92] at l2
      replace l2 := l2.cg h90
      rw [if_neg (show ¬ (27 : Int32) ≤ nI i from fun q => by have := (nI_leI (a := 27) (by omega) (by omega)).mp q; omega), l1, some_bind', dk_lt_eq, dk_lt_eq, dk_lt_eq, d1, d2, d3]
      rw [l2.1 0 (by omega), i_asb, show (sz 0 + nI (i / 9)) - 1 = vq_A sz i from rfl]
      have m1 := l2.set 0 (vq_A sz i)
      rw [m1.1 1 (by omega), upd_ne _ _ (by omega), i_asb, show (sz 1 + nI (i / 3 % 3)) - 1 = vq_B sz i from rfl]
      have m2 := m1.set 1 (vq_B sz i)
      rw [m2.1 2 (by omega), upd_ne _ _ (by omega), upd_ne _ _ (by omega), i_asb, show (sz 2 + nI (i % 3)) - 1 = vq_C sz i from rfl]
      have m3 := m2.set 2 (vq_C sz i)
      obtain ⟨G, hG⟩ : ∃ G, G = dk_si (dk_si (dk_si L 95 0 (vq_A sz i)) 95 1 (vq_B sz i)) 95 2 (vq_C sz i) := ⟨_, rfl⟩
      have gsm : m_sm S0 G := by rw [hG]; exact (((hsm.tr l3).tr (m_sm.si (by omega))).tr (m_sm.si (by omega))).tr (m_sm.si (by omega))
      rw [← hG] at m3 ⊢
      clear hG
      have mT : m_T (vq_sz sz i) rb sl 0 0 G := m3
      have g0 : G.1 95 0 = vq_A sz i := by rw [mT.1 0 (by omega)]; unfold vq_sz; rw [upd_ne _ _ (by omega), upd_ne _ _ (by omega), upd_same]
      have g1 : G.1 95 1 = vq_B sz i := by rw [mT.1 1 (by omega)]; unfold vq_sz; rw [upd_ne _ _ (by omega), upd_same]
      have g2 : G.1 95 2 = vq_C sz i := by rw [mT.1 2 (by omega)]; unfold vq_sz; rw [upd_same]
      simp only [q_in, some_bind', dk_lt_eq, nI_1, g0, g1, g2]
      have hk27 : 27 - i = (27 - (i + 1)) + 1 := by omega
      rw [hk27, n_c, n_c]
      have hno : vq_ok sz i = false → ∃ T, fX9_made_L29 (nI k) (nI l) sl (nI a) kx m (nI c) (nI w) (nI (i + 1)) G = kx (nI (c + ((if vq_ok sz i = true then 1 else 0) + n_c (vq_ok sz) (27 - (i + 1)) (i + 1))), nI (w + ((if (vq_ok sz i && g_w (c_P (vq_sz sz i) sl rb) a) = true then 1 else 0) + n_c (fun j => vq_ok sz j && g_w (c_P (vq_sz sz j) sl rb) a) (27 - (i + 1)) (i + 1))), T) ∧ m_sm S0 T := fun hv => by
        rw [hv]
        simp only [Bool.false_and, Bool.false_eq_true, if_false, Nat.zero_add]
        exact ih (i + 1) c w G (by omega) (by omega) gsm
      by_cases hA : 1 ≤ vq_A sz i ∧ vq_A sz i ≤ 9
      · simp only [if_pos hA, i_10, if_false]
        by_cases hB : 1 ≤ vq_B sz i ∧ vq_B sz i ≤ 9
        · simp only [if_pos hB, i_10, if_false]
          by_cases hC : 1 ≤ vq_C sz i ∧ vq_C sz i ≤ 9
          · simp only [if_pos hC, i_10, if_false]
            have hv : vq_ok sz i = true := decide_eq_true ⟨hA, hB, hC⟩
            have hok := a_ok_sz (vq_sz_ok hsz hv)
            obtain ⟨T, f1, f2, f3, -⟩ := q_mwell mT hok ha
            rw [← a_P_c hok] at f1
            rw [f1, some_bind', hv]
            simp only [Bool.true_and, if_true]
            cases hw : g_w (c_P (vq_sz sz i) sl rb) a with
            | true =>
              rw [if_neg k_b_t, nI_1]
              obtain ⟨T2, p1, p2⟩ := ih (i + 1) (c + 1) (w + 1) T (by omega) (by omega) (gsm.tr f3)
              refine ⟨T2, ?_, p2⟩
              rw [p1]
              simp only [if_true, Nat.add_assoc]
            | false =>
              rw [if_pos k_b_f, Int32.add_zero]
              obtain ⟨T2, p1, p2⟩ := ih (i + 1) (c + 1) w T (by omega) (by omega) (gsm.tr f3)
              refine ⟨T2, ?_, p2⟩
              rw [p1]
              simp only [Bool.false_eq_true, if_false, Nat.add_assoc, Nat.zero_add]
          · simp only [if_neg hC, if_true]
            exact hno (decide_eq_false (fun q => hC q.2.2))
        · simp only [if_neg hB, if_true]
          exact hno (decide_eq_false (fun q => hB q.2.1))
      · simp only [if_neg hA, if_true]
        exact hno (decide_eq_false (fun q => hA q.1))
theorem vq_ok13 {sz : Nat → Int32} (h : i_sz sz) : vq_ok sz 13 = true := by
  obtain ⟨a, b, c, d, x, y, e0, e1, e2, e3, e4, e5, h0, h1, h2, -⟩ := h
  have hx : ∀ n : Nat, (1 ≤ n ∧ n ≤ 9) → (1 ≤ (nI n + nI 1) - 1 ∧ (nI n + nI 1) - 1 ≤ 9) := fun n hn => by
    rw [nI_add, nI_pred]
    exact ⟨(nI_leI (a := 1) (by omega) (by omega)).mpr hn.1, (nI_leI (b := 9) (by omega) (by omega)).mpr hn.2⟩
  refine decide_eq_true ⟨?_, ?_, ?_⟩
  · unfold vq_A; rw [e0]; exact hx a h0
  · unfold vq_B; rw [e1]; exact hx b h1
  · unfold vq_C; rw [e2]; exact hx c h2
theorem h_rb {n : Nat} {S S1 T : dk_S} {k l : Nat} {sz : Nat → Int32} {rb : Int32} (hI : dk_I n S) (hk : k < 4) (hl : l < 4) (h : fX8_isReady (nI k) (nI l) S = some (1, S1)) (hT : c_T sz rb S1) (h92 : T.1 92 = S.1 92) : T.1 92 (101 * l) = rb := by
  obtain ⟨hA, ⟨hR, hTt, hW, hB, hK⟩, hS⟩ := hI
  rcases q_isReady hk hl hW hB with ⟨e1, e2, S1', e3, e4, e5, e6, e7⟩ | ⟨e1, e3⟩
  · rw [h] at e3
    have e : S1 = S1' := congrArg Prod.snd (Option.some.inj e3)
    subst e
    rw [h92, ← ((hB l hl).2.2.1 e2).1, ← e4.2.1]
    exact hT.2.1
  · rw [h] at e3
    have e : (1 : Int32) = 0 := congrArg Prod.fst (Option.some.inj e3)
    exact absurd e (by decide)
theorem pr_made (a1 : Int32) (a2 : Int32) (a3 : Int32) (a4 : Int32) {n : Nat} {S : dk_S} (hn : n < 512) (hI : dk_I n S) : ∃ (r : Int32) (S1 S2 : dk_S), fX8_made a1 a2 a3 a4 S = some (r, S1) ∧ fX9_made a1 a2 a3 a4 S1 = some (r, S2) ∧ dk_I (n + 1) S2 := by
  unfold fX8_made fX9_made
  by_cases hg : h_g a1 a2 a3 a4
  · rw [q_nG_t hg, some_bind', if_pos rfl]
    obtain ⟨k, l, t, a, hk, hl, ht, ha, rfl, rfl, rfl, rfl⟩ := h_g_of hg
    rcases h_two hI hk hl with ⟨S1, sz, rb, e1, e2, e3, e4, e5, -, e6, -, e8⟩ | ⟨e1, e2⟩
    · rw [e1, some_bind', if_neg (show ¬ (1 : Int32) = 0 by decide), dI_in hk (by omega), dk_gd_t, nI_clamp (by omega)]
      obtain ⟨T, f1, f2, f3⟩ := e_cmade (S0 := S) (sl := nI t) (B := 10000000 * (n : Int)) hk e5 e6.symm (by omega) ha dk_FU 0 0 0 sz S1 (by omega) (by have := dk_FU_ge; omega) (fun _ _ _ => rfl) e2 e3 (((c_ok.of hI.2.2).c (by rw [e4]) (by rw [e4])).up (by omega))
      have hc1 : 1 ≤ n_c (vq_ok sz) 27 0 := n_c_pos 27 0 13 (by omega) (by omega) (vq_ok13 e5)
      have hc2 := n_c_le (vq_ok sz) 27 0
      have hw2 := n_c_le (fun j => vq_ok sz j && g_w (c_P (vq_sz sz j) (nI t) rb) a) 27 0
      rw [Nat.zero_add, Nat.zero_add, show 27 - 0 = 27 from rfl] at f1
      obtain ⟨c, hcc⟩ : ∃ c, c = n_c (vq_ok sz) 27 0 := ⟨_, rfl⟩
      obtain ⟨w, hww⟩ : ∃ w, w = n_c (fun j => vq_ok sz j && g_w (c_P (vq_sz sz j) (nI t) rb) a) 27 0 := ⟨_, rfl⟩
      rw [← hcc, ← hww, q_frac (by omega) (by omega) (by omega), some_bind'] at f1
      have f1' : fX8_made_L48 (nI t) (nI a) (51 + 2 * k + 1) dk_FU 0 0 0 S1 = _ := f1
      obtain ⟨S2, g1, g2, g3⟩ := e8 (dk_sl (dk_sl T 0 13 (lN (w / Nat.gcd w c))) 0 14 (lN (c / Nat.gcd w c))) 1 t a (by decide) ht ha (fun q hq => f2.1 q (by omega))
      obtain ⟨w1, w2, w3, w4, w5, w6⟩ := hI.2.1.2.2.1 k hk
      obtain ⟨b1, b2, b3, b4⟩ := hI.2.1.2.2.2.1 l hl
      obtain ⟨M, p1, p2⟩ := e_mmade (S0 := dk_sl (dk_sl T 0 13 (lN (w / Nat.gcd w c))) 0 14 (lN (c / Nat.gcd w c))) (sl := nI t) (rb := rb) hk hl e5 (fun j hj => by rw [dk_sl_1, dk_sl_1, f2.1 90 (by omega), ← w3 j hj, e6]) (h_rb hI hk hl e1 e2 (f2.1 92 (by omega))) ha (fun t3 : Int32 × Int32 × dk_S => (fX9_fraction t3.2.1.toInt64 t3.1.toInt64 t3.1 t3.2.2).bind (fun r4 => some (r4.1, r4.2))) dk_FU 0 0 0 S2 (by omega) (by have := dk_FU_ge; omega) g3
      rw [Nat.zero_add, Nat.zero_add, show 27 - 0 = 27 from rfl, ← hcc, ← hww] at p1
      dsimp only at p1
      rw [nI_l (by omega), nI_l (by omega), q_mfrac (by omega) (by omega) (by omega), some_bind'] at p1
      have p1' : fX9_made_L29 (nI k) (nI l) (nI t) (nI a) _ dk_FU 0 0 0 S2 = _ := p1
      refine ⟨_, _, _, f1', ?_, an_frac hI f2 f3 (by omega) p2⟩
      rw [g1, some_bind', if_pos (show (0 : Int32) ≤ 0 by decide), p1']
    · rw [e1, some_bind', if_pos rfl, q_found1, some_bind']
      refine ⟨_, _, _, rfl, ?_, dk_I_fn (f := 1) (by omega) hI⟩
      rw [e2 1 t a (by decide) ht ha, some_bind', if_neg n3neg]
  · rw [q_nG_f hg, some_bind', if_neg (show ¬ (1 : Int32) = 0 by decide)]
    refine ⟨_, _, _, rfl, ?_, dk_I_up hI⟩
    rw [q_need_bad (Or.inr hg), some_bind', if_neg n1neg]
