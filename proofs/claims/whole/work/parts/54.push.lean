/-! push -/
def u_sz (sz : Nat → Int32) (x y : Int32) : Nat → Int32 := upd (upd sz 4 (sz 4 + x)) 5 (sz 5 + y)
theorem u_sz_ok {sz : Nat → Int32} (h : a_ok sz) (x y : Int32) : a_ok (u_sz sz x y) := h
theorem u_P {sz : Nat → Int32} (h : a_ok sz) (sl rb x y : Int32) : c_P (u_sz sz x y) sl rb = a_P sz sl rb x y := by
  rw [a_P_c (u_sz_ok h x y)]
  unfold a_P
  show (((sl * sz 3) / 10 + (sz 4 + x)) + 0, ((sl * sz 3) / 10 + (sz 5 + y)) + 0, _) = _
  rw [Int32.add_zero, Int32.add_zero, Int32.add_assoc, Int32.add_assoc]
  rfl
def u_fall (kd : Int32) : Bool := decide (kd = 4 ∨ kd = 5)
theorem k_of_4 (kd : Int32) : k_of kd 4 = decide (kd = 4) := by
  unfold k_of
  congr 1
  apply propext
  constructor
  · rintro (h | h | ⟨h, -⟩ | ⟨h, -⟩)
    · exact absurd h (by decide)
    · exact h.symm
    · exact absurd h (by decide)
    · exact absurd h (by decide)
  · exact fun h => Or.inr (Or.inl h.symm)
theorem k_of_5 (kd : Int32) : k_of kd 5 = decide (kd = 5) := by
  unfold k_of
  congr 1
  apply propext
  constructor
  · rintro (h | h | ⟨h, -⟩ | ⟨h, -⟩)
    · exact absurd h (by decide)
    · exact h.symm
    · exact absurd h (by decide)
    · exact absurd h (by decide)
  · exact fun h => Or.inr (Or.inl h.symm)
noncomputable def u_1 (sz : Nat → Int32) (rb : Int32) (a v : Nat) : Bool := g_w (a_P sz 0 rb (nI v) (nI v)) a
noncomputable def u_0 (sz : Nat → Int32) (rb : Int32) (a v : Nat) : Bool := !(u_fall (g_K (a_P sz 0 rb (nI v) 0) a).1)
theorem e_push {S0 : dk_S} {sz : Nat → Int32} {rb x3 : Int32} {B : Int} {a k1 : Nat} (hok : a_ok sz) (hB2 : B ≤ 7000000000) (ha : a ≤ 99) (hk1 : 50 < k1) (h0 : S0.1 (k1 + 1) = sz) : ∀ (m v : Nat) (z : Nat → Int32) (S : dk_S), v ≤ 100 → 100 - v < m → c_T z rb S → (∀ j, ¬ j = 4 → ¬ j = 5 → z j = sz j) → c_sm S0 S → c_ok (B + 401 * v) S →
    ∃ T z2, fX8_leastPush_L18 k1 (nI a) x3 m (nI v) S = some (n_f (if x3 = 0 then u_0 sz rb a else u_1 sz rb a) (100 - v) v, T) ∧ c_T z2 rb T ∧ (∀ j, ¬ j = 4 → ¬ j = 5 → z2 j = sz j) ∧ c_sm S0 T ∧ c_ok (B + 401 * 100) T := by
  intro m
  induction m with
  | zero => intro v z S h1 h2; omega
  | succ m ih =>
    intro v z S h1 h2 hT hz hsm hcok
    rw [fX8_leastPush_L18]
    by_cases hv : v = 100
    · subst hv
      rw [if_pos (show (99 : Int32) < nI 100 from by decide)]
      exact ⟨S, z, rfl, hT, hz, hsm, hcok⟩
    · rw [if_neg (show ¬ (99 : Int32) < nI v from fun q => by have := (nI_ltI (a := 99) (by omega) (by omega)).mp q; omega), dk_lt_eq, dk_lt_eq, dk_lt_eq]
      have hS : S.1 (k1 + 1) = sz := by rw [hsm.1 _ (by omega), h0]
      have hS2 : (dk_si S 19 4 (S.1 (k1 + 1) 4 + nI v)).1 (k1 + 1) = sz := by rw [dk_si_eq, dk_sr_ne _ _ (by omega), hS]
      rw [hS2, hS]
      have hw : ∀ y, upd (upd z 4 (sz 4 + nI v)) 5 (sz 5 + y) = u_sz sz (nI v) y := fun y => by
        funext j
        unfold u_sz
        simp only [upd_at]
        by_cases h5 : j = 5
        · rw [if_pos h5, if_pos h5]
        · rw [if_neg h5, if_neg h5]
          by_cases h4 : j = 4
          · rw [if_pos h4, if_pos h4]
          · rw [if_neg h4, if_neg h4]; exact hz j h4 h5
      have hT2 := (hT.set 4 (sz 4 + nI v)).set 5 (sz 5 + (if x3 = 0 then 0 else nI v))
      rw [hw] at hT2
      obtain ⟨T, f1, f2, f3, f4, -, f5, -⟩ := q_find2 0 hT2 (u_sz_ok hok _ _).2 hcok.si.si (by omega) ha
      rw [u_P hok] at f5
      have hz2 : ∀ j, ¬ j = 4 → ¬ j = 5 → u_sz sz (nI v) (if x3 = 0 then 0 else nI v) j = sz j := fun j h4 h5 => by unfold u_sz; rw [upd_ne _ _ h5, upd_ne _ _ h4]
      have hsm2 := ((hsm.tr (c_sm.si (q := 19) (j := 4) (v := sz 4 + nI v) (by omega))).tr (c_sm.si (q := 19) (j := 5) (v := sz 5 + (if x3 = 0 then 0 else nI v)) (by omega))).tr f3
      have hih := ih (v + 1) _ T (by omega) (by omega) f2 hz2 hsm2 (f4.up (by omega))
      rw [f1, some_bind', q_isOf, some_bind', dk_lt_eq, dk_lt_eq]
      dsimp only
      simp only [q_isOf, some_bind', f5, dk_lt_eq, nI_1]
      rw [show 100 - v = (100 - (v + 1)) + 1 by omega, n_f]
      have hfin : ∃ T2 z2, some (nI v, T) = some (nI v, T2) ∧ c_T z2 rb T2 ∧ (∀ j, ¬ j = 4 → ¬ j = 5 → z2 j = sz j) ∧ c_sm S0 T2 ∧ c_ok (B + 401 * 100) T2 := ⟨T, _, rfl, f2, hz2, hsm2, f4.up (by omega)⟩
      by_cases hx : x3 = 0
      · rw [if_pos hx] at hih ⊢
        simp only [if_pos hx] at hih ⊢
        have hu : u_0 sz rb a v = !(decide ((g_K (a_P sz 0 rb (nI v) 0) a).1 = 4 ∨ (g_K (a_P sz 0 rb (nI v) 0) a).1 = 5)) := rfl
        generalize (g_K (a_P sz 0 rb (nI v) 0) a).1 = kd at hu ⊢
        rw [k_of_4, k_of_5, hu]
        by_cases e4 : kd = 4
        · rw [decide_eq_true e4, if_neg k_b_t, decide_eq_true (Or.inl e4), if_neg (show ¬ (1 : Int32) = 0 by decide), if_neg (show ¬ (!true) = true by decide)]
          exact hih
        · rw [decide_eq_false e4, if_pos k_b_f]
          by_cases e5 : kd = 5
          · rw [decide_eq_true e5, if_neg k_b_t, decide_eq_true (Or.inr e5), if_neg (show ¬ (1 : Int32) = 0 by decide), if_neg (show ¬ (!true) = true by decide)]
            exact hih
          · rw [decide_eq_false e5, if_pos k_b_f, decide_eq_false (fun h => h.elim e4 e5), if_pos trivial, if_pos (show (!false) = true from rfl)]
            exact hfin
      · rw [if_neg hx] at hih ⊢
        simp only [if_neg hx] at hih ⊢
        have hu : u_1 sz rb a v = k_of (g_K (a_P sz 0 rb (nI v) (nI v)) a).1 1 := rfl
        rw [hu]
        generalize (g_K (a_P sz 0 rb (nI v) (nI v)) a).1 = kd
        have hcase : ∀ (X : Option (Int32 × dk_S)), (if k_b (k_of kd 4) = 0 then (if k_b (k_of kd 5) = 0 then X else X) else X) = X := fun X => by split <;> (try split) <;> rfl
        rw [hcase]
        cases hb : k_of kd 1 with
        | true => rw [if_neg k_b_t, if_pos rfl]; exact hfin
        | false => rw [if_pos k_b_f, if_neg (show ¬ false = true by decide)]; exact hih
theorem e_mpush {S0 : dk_S} {sz : Nat → Int32} {rb : Int32} {a : Nat} {kx : (Int32 × Int32 × dk_S) → Option (Int32 × dk_S)} (hok : a_ok sz) (ha : a ≤ 99) : ∀ (m v : Nat) (p0 p1 : Int32) (S : dk_S), v ≤ 99 → v < m → m_T sz rb 0 p0 p1 S → m_sm S0 S →
    ∃ T, fX9_push_L31 (nI a) kx m (n_f (u_1 sz rb a) (99 - v) (v + 1)) (n_f (u_0 sz rb a) (99 - v) (v + 1)) (nI v) S = kx (n_f (u_1 sz rb a) 99 1, n_f (u_0 sz rb a) 99 1, T) ∧ m_sm S0 T := by
  intro m
  induction m with
  | zero => intro v p0 p1 S h1 h2; omega
  | succ m ih =>
    intro v p0 p1 S h1 h2 hT hsm
    rw [fX9_push_L31]
    cases v with
    | zero =>
      rw [if_pos (show nI 0 < (1 : Int32) from by decide)]
      exact ⟨S, rfl, hsm⟩
    | succ v =>
      rw [if_neg (show ¬ nI (v + 1) < (1 : Int32) from fun q => by have := (nI_ltI (b := 1) (by omega) (by omega)).mp q; omega), dk_lt_eq, dk_lt_eq]
      obtain ⟨T, f1, f2, f3, -⟩ := q_mwell ((hT.p0 (nI (v + 1))).p1 (nI (v + 1))) hok ha
      obtain ⟨U, g1, g2, g3, -⟩ := q_going2 (f2.p1 0) hok ha
      rw [f1, some_bind', dk_lt_eq, dk_lt_eq, g1, some_bind', dk_lt_eq]
      have hsm2 := ((((hsm.tr (m_sm.si (q := 96) (j := 0) (v := nI (v + 1)) (by omega))).tr (m_sm.si (q := 96) (j := 1) (v := nI (v + 1)) (by omega))).tr f3).tr (m_sm.si (q := 96) (j := 1) (v := 0) (by omega))).tr g3
      obtain ⟨W, w1, w2⟩ := ih v _ _ U (by omega) (by omega) g2 hsm2
      refine ⟨W, ?_, w2⟩
      rw [← w1, show nI (v + 1) + (-1) = nI v by rw [← nI_pred v, Int32.sub_eq_add_neg], show 99 - v = (99 - (v + 1)) + 1 by omega, n_f, n_f]
      congr 1
      · have hu : u_1 sz rb a (v + 1) = g_w (a_P sz 0 rb (nI (v + 1)) (nI (v + 1))) a := rfl
        rw [hu]
        cases hb : g_w (a_P sz 0 rb (nI (v + 1)) (nI (v + 1))) a with
        | true => rw [if_neg k_b_t, if_pos rfl]
        | false => rw [if_pos k_b_f, if_neg (show ¬ false = true by decide)]
      · have hu : u_0 sz rb a (v + 1) = !(decide ((g_K (a_P sz 0 rb (nI (v + 1)) 0) a).1 = 4 ∨ (g_K (a_P sz 0 rb (nI (v + 1)) 0) a).1 = 5)) := rfl
        rw [hu]
        dsimp only
        generalize (g_K (a_P sz 0 rb (nI (v + 1)) 0) a).1 = kd
        by_cases e4 : kd = 4
        · rw [if_pos e4, decide_eq_true (Or.inl e4), if_neg (show ¬ (!true) = true by decide)]
        · rw [if_neg e4]
          by_cases e5 : kd = 5
          · rw [if_pos e5, decide_eq_true (Or.inr e5), if_neg (show ¬ (!true) = true by decide)]
          · rw [if_neg e5, decide_eq_false (fun h => h.elim e4 e5), if_pos (show (!false) = true from rfl)]
theorem pr_push (a1 : Int32) (a2 : Int32) (a3 : Int32) {n : Nat} {S : dk_S} (hn : n < 512) (hI : dk_I n S) : ∃ (r : Int32) (S1 S2 : dk_S), fX8_push a1 a2 a3 S = some (r, S1) ∧ fX9_push a1 a2 a3 S1 = some (r, S2) ∧ dk_I (n + 1) S2 := by
  unfold fX8_push fX9_push
  by_cases hg : h_g a1 a2 0 a3
  · rw [q_nP_t hg, some_bind', if_pos rfl]
    obtain ⟨k, l, t, a, hk, hl, ht, ha, rfl, rfl, e0, rfl⟩ := h_g_of hg
    rcases h_two hI hk hl with ⟨S1, sz, rb, e1, e2, e3, e4, e5, -, e6, -, e8⟩ | ⟨e1, e2⟩
    · have hok := a_ok_sz e5
      rw [e1, some_bind', if_neg (show ¬ (1 : Int32) = 0 by decide), dI_in (by omega) (by omega), dk_gd_t, nI_clamp (by omega)]
      obtain ⟨T, z, f1, f2, f3, f4, f5⟩ := e_push (S0 := S) (x3 := 1) (B := 10000000 * (n : Int)) (k1 := 51 + 2 * k) hok (by omega) ha (by omega) (by rw [e6, show 51 + 2 * k + 1 = 52 + 2 * k by omega]) dk_FU 1 sz S1 (by omega) (by have := dk_FU_ge; omega) e2 (fun _ _ _ => rfl) e3 (((c_ok.of hI.2.2).c (by rw [e4]) (by rw [e4])).up (by omega))
      rw [if_neg (show ¬ (1 : Int32) = 0 by decide)] at f1
      have f1' : fX8_leastPush (51 + 2 * k) (nI a) 1 S1 = some (n_f (u_1 sz rb a) 99 1, T) := f1
      rw [f1', some_bind']
      have hm : ∀ G : dk_S, (∀ q, 82 < q → G.1 q = S.1 q) → ∃ S2 T2, fX9_need 1 (nI k) (nI l) 0 (nI a) G = some (0, S2) ∧ fX9_push_L31 (nI a) (fun t3 : Int32 × Int32 × dk_S => if t3.1 = (-9) then some ((-9), t3.2.2) else (fX9_tells t3.2.1 t3.1 t3.2.2).bind (fun r5 => some (r5.1, r5.2))) dk_FU (-9) (-9) 99 S2 = (if n_f (u_1 sz rb a) 99 1 = -9 then some (-9, T2) else some (n_f (u_1 sz rb a) 99 1, dk_sr T2 82 (upd (T2.1 82) 2 (n_f (u_0 sz rb a) 99 1)))) ∧ m_sm G T2 := fun G hG => by
        obtain ⟨S2, g1, g2, g3⟩ := e8 G 1 0 a (by decide) (by omega) ha hG
        rw [nI_0] at g1 g2
        obtain ⟨T2, k1, k2⟩ := e_mpush (S0 := G) (kx := fun t3 : Int32 × Int32 × dk_S => if t3.1 = (-9) then some ((-9), t3.2.2) else (fX9_tells t3.2.1 t3.1 t3.2.2).bind (fun r5 => some (r5.1, r5.2))) hok ha dk_FU 99 0 0 S2 (by omega) (by have := dk_FU_ge; omega) g2 g3
        exact ⟨S2, T2, g1, k1, k2⟩
      by_cases h9 : n_f (u_1 sz rb a) 99 1 = -9
      · obtain ⟨S2, T2, g1, k1, k2⟩ := hm T (fun q hq => f4.1 q (by omega))
        rw [if_pos h9] at k1
        rw [if_pos h9]
        refine ⟨_, _, _, rfl, ?_, an_none hI f4 f5 (by omega) k2⟩
        rw [g1, some_bind', if_pos (show (0 : Int32) ≤ 0 by decide), k1, h9]
      · rw [if_neg h9]
        obtain ⟨U, z2, u1, u2, u3, u4, u5⟩ := e_push (S0 := S) (x3 := 0) (B := 10000000 * (n : Int) + 401 * 100) (k1 := 51 + 2 * k) hok (by omega) ha (by omega) (by rw [e6, show 51 + 2 * k + 1 = 52 + 2 * k by omega]) dk_FU 1 z T (by omega) (by have := dk_FU_ge; omega) f2 f3 f4 (f5.up (by omega))
        rw [if_pos rfl] at u1
        have u1' : fX8_leastPush (51 + 2 * k) (nI a) 0 T = some (n_f (u_0 sz rb a) 99 1, U) := u1
        rw [dk_gd_t, u1', some_bind', q_tell, some_bind']
        obtain ⟨S2, T2, g1, k1, k2⟩ := hm (dk_sr U 0 (upd (U.1 0) 12 (n_f (u_0 sz rb a) 99 1))) (m_hi u4)
        rw [if_neg h9] at k1
        refine ⟨_, _, _, rfl, ?_, an_tell hI u4 u5 (by omega) k2⟩
        rw [g1, some_bind', if_pos (show (0 : Int32) ≤ 0 by decide), k1]
    · rw [e1, some_bind', if_pos rfl, q_found1, some_bind']
      refine ⟨_, _, _, rfl, ?_, dk_I_fn (f := 1) (by omega) hI⟩
      have h2 := e2 1 0 a (by decide) (by omega) ha
      rw [nI_0] at h2
      rw [h2, some_bind', if_neg n3neg]
  · rw [q_nP_f hg, some_bind', if_neg (show ¬ (1 : Int32) = 0 by decide)]
    refine ⟨_, _, _, rfl, ?_, dk_I_up hI⟩
    rw [q_need_bad (Or.inr hg), some_bind', if_neg n1neg]
