/-! wide -/
theorem nI_d9 : ∀ i : Fin 81, nI i.1 / 9 = nI (i.1 / 9) := by decide
def w_sz (sz : Nat → Int32) (i : Nat) : Nat → Int32 := upd (upd sz 1 (nI (1 + i / 9))) 2 (nI (1 + i % 9))
theorem w_sz_w (sz : Nat → Int32) (i j : Nat) : w_sz (w_sz sz i) j = w_sz sz j := by
  funext q
  unfold w_sz
  simp only [upd_at]
  by_cases h2 : q = 2
  · rw [if_pos h2, if_pos h2]
  · rw [if_neg h2, if_neg h2, if_neg h2]
    by_cases h1 : q = 1
    · rw [if_pos h1, if_pos h1]
    · rw [if_neg h1, if_neg h1, if_neg h1]
noncomputable def w_st (sz : Nat → Int32) (rb : Int32) (a i : Nat) (x : Int32 × Int32) : Int32 × Int32 :=
  if nI (g_sp (w_sz sz i) rb a) ≤ x.1 then x else (nI (g_sp (w_sz sz i) rb a), 10 * nI (1 + i / 9) + nI (1 + i % 9))
noncomputable def w_it (sz : Nat → Int32) (rb : Int32) (a : Nat) : Nat → Nat → Int32 × Int32 → Int32 × Int32
  | 0, _, x => x
  | k + 1, i, x => w_it sz rb a k (i + 1) (w_st sz rb a i x)
theorem w_it_add (sz : Nat → Int32) (rb : Int32) (a k : Nat) : ∀ (j i : Nat) (x : Int32 × Int32), w_it sz rb a (j + k) i x = w_it sz rb a k (i + j) (w_it sz rb a j i x) := by
  intro j
  induction j with
  | zero => intro i x; rw [Nat.zero_add]; rfl
  | succ j ih => intro i x; rw [Nat.succ_add, w_it, w_it, ih, show i + 1 + j = i + (j + 1) by omega]
theorem e_wide1 {S0 : dk_S} {sz : Nat → Int32} {rb : Int32} {B : Int} {a p : Nat} {kx : (Int32 × Int32 × dk_S) → Option (Int32 × dk_S)} (hsz : i_sz sz) (hB2 : B ≤ 6900000000) (ha : a ≤ 99) (hp : p < 9) : ∀ (m q : Nat) (x : Int32 × Int32) (z : Nat → Int32) (S : dk_S), q ≤ 9 → 9 - q < m → c_T z rb S → (∀ i, w_sz z i = w_sz sz i) → c_sm S0 S → c_ok (B + 40100 * q) S →
    ∃ T z2, fX8_wide_L45 (nI a) (nI (p + 1)) kx m x.1 x.2 (nI (q + 1)) S = kx ((w_it sz rb a (9 - q) (9 * p + q) x).1, (w_it sz rb a (9 - q) (9 * p + q) x).2, T) ∧ c_T z2 rb T ∧ (∀ i, w_sz z2 i = w_sz sz i) ∧ c_sm S0 T ∧ c_ok (B + 40100 * 9) T := by
  intro m
  induction m with
  | zero => intro q x z S h1 h2; omega
  | succ m ih =>
    intro q x z S h1 h2 hT hz hsm hok
    rw [fX8_wide_L45]
    by_cases hq : q = 9
    · subst hq
      rw [if_pos (show (9 : Int32) < nI (9 + 1) from by decide)]
      exact ⟨S, z, rfl, hT, hz, hsm, hok⟩
    · rw [if_neg (show ¬ (9 : Int32) < nI (q + 1) from fun g => by have := (nI_ltI (a := 9) (by omega) (by omega)).mp g; omega), dk_lt_eq, dk_lt_eq]
      have hi1 : (9 * p + q) / 9 = p := by omega
      have hi2 : (9 * p + q) % 9 = q := by omega
      have hT2 := (hT.set 1 (nI (p + 1))).set 2 (nI (q + 1))
      have hw : upd (upd z 1 (nI (p + 1))) 2 (nI (q + 1)) = w_sz sz (9 * p + q) := by
        rw [← hz]; unfold w_sz; rw [hi1, hi2, Nat.add_comm 1, Nat.add_comm 1]
      rw [hw] at hT2
      have hs2 : i_sz (w_sz sz (9 * p + q)) := (hsz.set (by omega)).set (by omega)
      obtain ⟨T, f1, f2, f3, -, f5⟩ := q_span hT2 (a_ok_sz hs2).2 hok.si.si (by omega) ha
      rw [f1, some_bind', dk_lt_eq]
      obtain ⟨T2, z2, g1, g2⟩ := ih (q + 1) (w_st sz rb a (9 * p + q) x) _ T (by omega) (by omega) f2 (fun i => w_sz_w sz _ i) (((hsm.tr (c_sm.si (q := 19) (by omega))).tr (c_sm.si (q := 19) (by omega))).tr f3) (f5.up (by omega))
      refine ⟨T2, z2, ?_, g2⟩
      have hk : 9 - q = (9 - (q + 1)) + 1 := by omega
      rw [hk, w_it, show 9 * p + q + 1 = 9 * p + (q + 1) by omega, ← g1, nI_1]
      unfold w_st
      rw [hi1, hi2]
      dsimp only
      by_cases hc : nI (g_sp (w_sz sz (9 * p + q)) rb a) ≤ x.1
      · rw [if_pos hc, if_pos hc]
      · rw [if_neg hc, if_neg hc, dk_lt_eq, Nat.add_comm 1, Nat.add_comm 1]
theorem e_wide {S0 : dk_S} {sz : Nat → Int32} {rb : Int32} {B : Int} {a : Nat} (hsz : i_sz sz) (hB2 : B ≤ 6000000000) (ha : a ≤ 99) : ∀ (m p : Nat) (x : Int32 × Int32) (z : Nat → Int32) (S : dk_S), p ≤ 9 → 9 - p < m → c_T z rb S → (∀ i, w_sz z i = w_sz sz i) → c_sm S0 S → c_ok (B + 40100 * 9 * p) S →
    ∃ T, fX8_wide_L35 (nI a) m x.1 x.2 (nI (p + 1)) S = some ((w_it sz rb a (81 - 9 * p) (9 * p) x).2, dk_sr T 0 (upd (T.1 0) 12 (w_it sz rb a (81 - 9 * p) (9 * p) x).1)) ∧ c_sm S0 T ∧ c_ok (B + 40100 * 81) T := by
  intro m
  induction m with
  | zero => intro p x z S h1 h2; omega
  | succ m ih =>
    intro p x z S h1 h2 hT hz hsm hok
    rw [fX8_wide_L35]
    by_cases hp : p = 9
    · subst hp
      rw [if_pos (show (9 : Int32) < nI (9 + 1) from by decide), q_tell, some_bind']
      exact ⟨S, rfl, hsm, hok.up (by omega)⟩
    · rw [if_neg (show ¬ (9 : Int32) < nI (p + 1) from fun g => by have := (nI_ltI (a := 9) (by omega) (by omega)).mp g; omega)]
      obtain ⟨T, z2, f1, f2, f3, f4, f5⟩ := e_wide1 (S0 := S0) (p := p) (B := B + 40100 * 9 * p) (kx := fun t7 : Int32 × Int32 × dk_S => fX8_wide_L35 (nI a) m t7.1 t7.2.1 (nI (p + 1) + 1) t7.2.2) hsz (by omega) ha (by omega) dk_FU 0 x z S (by omega) (by have := dk_FU_ge; omega) hT hz hsm (hok.up (by omega))
      have f1' : fX8_wide_L45 (nI a) (nI (p + 1)) (fun t7 : Int32 × Int32 × dk_S => fX8_wide_L35 (nI a) m t7.1 t7.2.1 (nI (p + 1) + 1) t7.2.2) dk_FU x.1 x.2 1 S = _ := f1
      rw [f1', nI_1]
      dsimp only
      obtain ⟨T2, g1, g2, g3⟩ := ih (p + 1) (w_it sz rb a (9 - 0) (9 * p + 0) x) z2 T (by omega) (by omega) f2 f3 f4 (f5.up (by omega))
      refine ⟨T2, ?_, g2, g3⟩
      rw [g1, show 81 - 9 * p = 9 + (81 - 9 * (p + 1)) by omega, w_it_add]
      rfl
theorem e_mwide {S0 : dk_S} {sz : Nat → Int32} {rb : Int32} {a : Nat} (hsz : i_sz sz) (ha : a ≤ 99) : ∀ (m i : Nat) (x : Int32 × Int32) (z : Nat → Int32) (sl : Int32) (S : dk_S), i ≤ 81 → 81 - i < m → m_T z rb sl 0 0 S → (∀ i, w_sz z i = w_sz sz i) → m_sm S0 S →
    ∃ T, fX9_wide_L29 (nI a) m x.2 x.1 (nI i) S = some ((w_it sz rb a (81 - i) i x).2, dk_sr T 82 (upd (T.1 82) 2 (w_it sz rb a (81 - i) i x).1)) ∧ m_sm S0 T := by
  intro m
  induction m with
  | zero => intro i x z sl S h1 h2; omega
  | succ m ih =>
    intro i x z sl S h1 h2 hT hz hsm
    rw [fX9_wide_L29]
    by_cases hi : i = 81
    · subst hi
      rw [if_pos (show (81 : Int32) ≤ nI 81 from by decide), q_tells, some_bind']
      exact ⟨S, rfl, hsm⟩
    · rw [if_neg (show ¬ (81 : Int32) ≤ nI i from fun g => by have := (nI_leI (a := 81) (by omega) (by omega)).mp g; omega), dk_lt_eq, dk_lt_eq]
      have hd : nI i / 9 = nI (i / 9) := nI_d9 ⟨i, by omega⟩
      have hm : nI i - nI (i / 9) * 9 = nI (i % 9) := by
        rw [show (9 : Int32) = nI 9 from rfl, nI_mul, nI_sub (by omega)]; congr 1; omega
      have hT2 := (hT.set 1 (nI (1 + i / 9))).set 2 (nI (1 + i % 9))
      have hw : upd (upd z 1 (nI (1 + i / 9))) 2 (nI (1 + i % 9)) = w_sz sz i := hz i
      rw [hw] at hT2
      have hs2 : i_sz (w_sz sz i) := (hsz.set (by omega)).set (by omega)
      rw [hd, hm, show (1 : Int32) = nI 1 from rfl, nI_add, nI_add]
      obtain ⟨T, sl2, f1, f2, f3⟩ := q_mspan hT2 (a_ok_sz hs2) ha
      rw [f1, some_bind', dk_lt_eq, q_greater, some_bind', nI_add]
      dsimp only
      rw [f2.1 1 (by omega), f2.1 2 (by omega)]
      obtain ⟨T2, g1, g2⟩ := ih (i + 1) (w_st sz rb a i x) _ sl2 T (by omega) (by omega) f2 (fun j => w_sz_w sz _ j) (((hsm.tr (m_sm.si (q := 95) (by omega))).tr (m_sm.si (q := 95) (by omega))).tr f3)
      refine ⟨T2, ?_, g2⟩
      rw [show 81 - i = (81 - (i + 1)) + 1 by omega, w_it, ← g1]
      have hv1 : w_sz sz i 1 = nI (1 + i / 9) := by unfold w_sz; rw [upd_ne _ _ (by omega), upd_same]
      have hv2 : w_sz sz i 2 = nI (1 + i % 9) := by unfold w_sz; rw [upd_same]
      rw [hv1, hv2]
      unfold w_st p_mx
      by_cases hc : nI (g_sp (w_sz sz i) rb a) ≤ x.1
      · rw [if_pos hc, if_pos hc, if_neg (fun g => Int32.lt_irrefl (Int32.lt_of_lt_of_le g hc))]
      · rw [if_neg hc, if_neg hc, if_pos (Int32.not_le.mp hc)]
theorem pr_wide (a1 : Int32) (a2 : Int32) (a3 : Int32) {n : Nat} {S : dk_S} (hn : n < 512) (hI : dk_I n S) : ∃ (r : Int32) (S1 S2 : dk_S), fX8_wide a1 a2 a3 S = some (r, S1) ∧ fX9_wide a1 a2 a3 S1 = some (r, S2) ∧ dk_I (n + 1) S2 := by
  unfold fX8_wide fX9_wide
  by_cases hg : h_g a1 a2 0 a3
  · rw [q_nP_t hg, some_bind', if_pos rfl]
    obtain ⟨k, l, t, a, hk, hl, ht, ha, rfl, rfl, e0, rfl⟩ := h_g_of hg
    rcases h_two hI hk hl with ⟨S1, sz, rb, e1, e2, e3, e4, e5, -, -, -, e8⟩ | ⟨e1, e2⟩
    · rw [e1, some_bind', if_neg (show ¬ (1 : Int32) = 0 by decide)]
      have hw0 : ∀ y, w_it sz rb a 81 0 (-1, y) = w_it sz rb a 80 1 (nI (g_sp (w_sz sz 0) rb a), 10 * nI (1 + 0 / 9) + nI (1 + 0 % 9)) := fun y => by
        have := g_sp_le (w_sz sz 0) rb a
        rw [w_it]
        unfold w_st
        have h1 : ¬ nI (g_sp (w_sz sz 0) rb a) ≤ (-1 : Int32) := fun g => by
          have h0 := Int32.le_iff_toInt_le.mp g
          rw [nI_toInt (by omega), show (-1 : Int32).toInt = -1 by decide] at h0
          omega
        rw [if_neg h1]
      obtain ⟨T, f1, f2, f3⟩ := e_wide (S0 := S) (rb := rb) (B := 10000000 * (n : Int)) e5 (by omega) ha dk_FU 0 (-1, 0) sz S1 (by omega) (by have := dk_FU_ge; omega) e2 (fun _ => rfl) e3 (((c_ok.of hI.2.2).c (by rw [e4]) (by rw [e4])).up (by omega))
      have f1' : fX8_wide_L35 (nI a) dk_FU (-1) 0 1 S1 = some ((w_it sz rb a 81 0 (-1, 0)).2, dk_sr T 0 (upd (T.1 0) 12 (w_it sz rb a 81 0 (-1, 0)).1)) := f1
      rw [f1']
      obtain ⟨S2, g1, g2, g3⟩ := e8 (dk_sr T 0 (upd (T.1 0) 12 (w_it sz rb a 81 0 (-1, 0)).1)) 1 0 a (by decide) (by omega) ha (m_hi f2)
      obtain ⟨T2, k1, k2⟩ := e_mwide (rb := rb) e5 ha dk_FU 0 (-1, -9) sz _ S2 (by omega) (by have := dk_FU_ge; omega) g2 (fun _ => rfl) g3
      have k1' : fX9_wide_L29 (nI a) dk_FU (-9) (-1) 0 S2 = some ((w_it sz rb a 81 0 (-1, -9)).2, dk_sr T2 82 (upd (T2.1 82) 2 (w_it sz rb a 81 0 (-1, -9)).1)) := k1
      rw [hw0, ← hw0 0] at k1'
      refine ⟨_, _, _, rfl, ?_, an_tell hI f2 f3 (by omega) k2⟩
      rw [nI_0] at g1
      rw [g1, some_bind', if_pos (show (0 : Int32) ≤ 0 by decide), k1']
    · rw [e1, some_bind', if_pos rfl, q_found1, some_bind']
      refine ⟨_, _, _, rfl, ?_, dk_I_fn (f := 1) (by omega) hI⟩
      have h2 := e2 1 0 a (by decide) (by omega) ha
      rw [nI_0] at h2
      rw [h2, some_bind', if_neg n3neg]
  · rw [q_nP_f hg, some_bind', if_neg (show ¬ (1 : Int32) = 0 by decide)]
    refine ⟨_, _, _, rfl, ?_, dk_I_up hI⟩
    rw [q_need_bad (Or.inr hg), some_bind', if_neg n1neg]
