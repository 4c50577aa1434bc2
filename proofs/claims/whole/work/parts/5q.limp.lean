/-! the search: least, first, how many, how many of them lead -/
def g_s (o : Nat → Nat) : Nat → Nat × Nat × Nat × Nat
  | 0 => (2147483647, 0, 0, 0)
  | c + 1 => if o c < (g_s o c).1 then (o c, c, 1, if c % 10 = 0 then 0 else 1) else if o c = (g_s o c).1 then ((g_s o c).1, (g_s o c).2.1, (g_s o c).2.2.1 + 1, (g_s o c).2.2.2 + (if c % 10 = 0 then 0 else 1)) else g_s o c
theorem g_s_b {o : Nat → Nat} (ho : ∀ c, o c < 2147483647) : ∀ c, (g_s o c).1 < 2 ^ 31 ∧ (g_s o c).2.1 ≤ c ∧ (g_s o c).2.2.1 ≤ c ∧ (g_s o c).2.2.2 ≤ c ∧ (1 ≤ c → 1 ≤ (g_s o c).2.2.1) ∧ (1 ≤ c → (g_s o c).1 < 2147483647) := by
  intro c
  induction c with
  | zero => exact ⟨show 2147483647 < 2 ^ 31 by omega, Nat.le_refl _, Nat.le_refl _, Nat.le_refl _, fun h => by omega, fun h => by omega⟩
  | succ c ih =>
    obtain ⟨i1, i2, i3, i4, i5, i6⟩ := ih
    have hc := ho c
    rw [g_s]
    by_cases h1 : o c < (g_s o c).1
    · rw [if_pos h1]
      refine ⟨by show o c < 2 ^ 31; omega, by show c ≤ c + 1; omega, by show 1 ≤ c + 1; omega, ?_, fun _ => Nat.le_refl _, fun _ => hc⟩
      show (if c % 10 = 0 then 0 else 1) ≤ c + 1
      by_cases h : c % 10 = 0
      · rw [if_pos h]; omega
      · rw [if_neg h]; omega
    · rw [if_neg h1]
      by_cases h2 : o c = (g_s o c).1
      · rw [if_pos h2]
        refine ⟨i1, by show (g_s o c).2.1 ≤ c + 1; omega, by show (g_s o c).2.2.1 + 1 ≤ c + 1; omega, ?_, fun _ => by show 1 ≤ (g_s o c).2.2.1 + 1; omega, fun _ => by show (g_s o c).1 < 2147483647; omega⟩
        show (g_s o c).2.2.2 + (if c % 10 = 0 then 0 else 1) ≤ c + 1
        by_cases h : c % 10 = 0
        · rw [if_pos h]; omega
        · rw [if_neg h]; omega
      · rw [if_neg h2]
        have h3 : 1 ≤ c := by
          cases c with
          | zero => exfalso; rw [g_s] at h1; exact h1 hc
          | succ c => omega
        exact ⟨i1, by omega, by omega, by omega, fun _ => i5 h3, fun _ => i6 h3⟩
noncomputable def n_1000 : Nat := Classical.choose (⟨1000, rfl⟩ : ∃ n : Nat, n = 1000)
theorem n_1000_eq : n_1000 = 1000 := Classical.choose_spec (⟨1000, rfl⟩ : ∃ n : Nat, n = 1000)
def l_sz (sz : Nat → Int32) (ld : Nat) : Nat → Int32 := upd (upd sz 4 (nI ld)) 5 0
theorem l_sz_cg {z sz : Nat → Int32} (hz : ∀ j, j < 4 → z j = sz j) (ld : Nat) : ∀ j, j < 6 → upd (upd z 4 (nI ld)) 5 0 j = l_sz sz ld j := fun j hj => by
  unfold l_sz
  simp only [upd_at]
  by_cases h5 : j = 5
  · rw [if_pos h5, if_pos h5]
  · rw [if_neg h5, if_neg h5]
    by_cases h4 : j = 4
    · rw [if_pos h4, if_pos h4]
    · rw [if_neg h4, if_neg h4, hz j (by omega)]
/-- OFF by a slope and a lead -/
def l_d (sz : Nat → Int32) (rb : Int32) (q : Nat → Nat) (c i : Nat) : Nat := o_d (o_h (c_P (l_sz sz (c % 10)) (nI (c / 10)) rb) (q 0) i) (q i)
def l_o (sz : Nat → Int32) (rb : Int32) (q : Nat → Nat) (N c : Nat) : Nat := o_f (l_d sz rb q c) (N - 1) 1 0
def s_J (S0 : dk_S) (sz : Nat → Int32) (rb : Int32) (o : Nat → Nat) (c : Nat) (S : dk_S) : Prop :=
  (∃ z : Nat → Int32, (∀ j, j < 4 → z j = sz j) ∧ z 5 = 0 ∧ c_T z rb S) ∧ (S.1 29 0 = nI (g_s o c).1 ∧ (1 ≤ c → S.1 29 1 = nI (g_s o c).2.1 ∧ S.1 29 2 = nI (g_s o c).2.2.1 ∧ S.1 29 3 = nI (g_s o c).2.2.2)) ∧ (∀ q, ¬ (16 ≤ q ∧ q ≤ 29) → S.1 q = S0.1 q) ∧ S.2 = S0.2
theorem q_weigh {S : dk_S} {o : Nat → Nat} {c s ld e : Nat} (hc : c = 10 * s + ld) (hld : ld ≤ 9) (hs : s ≤ 99) (ho : ∀ c, o c < 2147483647) (he1 : o c ≤ (g_s o c).1 → e = o c) (he2 : (g_s o c).1 < o c → (g_s o c).1 < e) (he3 : e ≤ o c) (h0 : S.1 29 0 = nI (g_s o c).1) (h1 : 1 ≤ c → S.1 29 1 = nI (g_s o c).2.1 ∧ S.1 29 2 = nI (g_s o c).2.2.1 ∧ S.1 29 3 = nI (g_s o c).2.2.2) : ∃ T, fX2_weigh (nI e) (nI s) (nI ld) S = some T ∧ (∀ q, ¬ q = 29 → T.1 q = S.1 q) ∧ T.2 = S.2 ∧ T.1 29 0 = nI (g_s o (c + 1)).1 ∧ T.1 29 1 = nI (g_s o (c + 1)).2.1 ∧ T.1 29 2 = nI (g_s o (c + 1)).2.2.1 ∧ T.1 29 3 = nI (g_s o (c + 1)).2.2.2 := by
  obtain ⟨b1, b2, b3, b4, b5, b6⟩ := g_s_b ho c
  have hoc := ho c
  have hcm : c % 10 = ld := by omega
  have e10 : (10 : Int32) * nI s + nI ld = nI c := by rw [show (10 : Int32) = nI 10 from rfl, nI_mul, nI_add, ← hc]
  have hl0 : (nI ld ≤ 0) ↔ ld = 0 := by
    rw [show (0 : Int32) = nI 0 from rfl, nI_leI (by omega) (by omega)]; omega
  unfold fX2_weigh
  rw [g_s, hcm, h0, dk_lt_eq]
  by_cases g1 : o c < (g_s o c).1
  · have hee := he1 (by omega)
    subst hee
    rw [if_pos g1, if_neg (fun q => by have := (nI_leI (by omega) (by omega)).mp q; omega)]
    simp only [dk_lt_eq, dk_si_eq, dk_sr_sr, dk_sr_same, upd_same, e10]
    rw [upd_ne _ _ (by omega), upd_ne _ _ (by omega), upd_ne _ _ (by omega), upd_same, if_pos rfl]
    by_cases g0 : ld = 0
    · rw [if_pos (hl0.mpr g0)]
      refine ⟨_, rfl, fun q hq => dk_sr_ne _ _ hq, rfl, ?_, ?_, ?_, ?_⟩ <;> rw [dk_sr_same]
      · simp (disch := omega) only [upd_ne, upd_same]
      · simp (disch := omega) only [upd_ne, upd_same]
      · simp (disch := omega) only [upd_ne, upd_same]; rfl
      · simp (disch := omega) only [upd_ne, upd_same, if_pos g0]; rfl
    · rw [if_neg (fun q => g0 (hl0.mp q))]
      refine ⟨_, rfl, fun q hq => dk_sr_ne _ _ hq, rfl, ?_, ?_, ?_, ?_⟩ <;> rw [dk_sr_same]
      · simp (disch := omega) only [upd_ne, upd_same]
      · simp (disch := omega) only [upd_ne, upd_same]
      · simp (disch := omega) only [upd_ne, upd_same]; rfl
      · simp (disch := omega) only [upd_ne, upd_same, if_neg g0]; rfl
  · have hc1 : 1 ≤ c := by
      cases c with
      | zero => exfalso; rw [g_s] at g1; exact g1 hoc
      | succ c => omega
    obtain ⟨k1, k2, k3⟩ := h1 hc1
    have b6' := b6 hc1
    rw [if_neg g1]
    by_cases g2 : o c = (g_s o c).1
    · have hee := he1 (by omega)
      subst hee
      rw [if_pos g2, if_pos ((nI_leI (by omega) (by omega)).mpr (by omega))]
      simp only [dk_lt_eq, dk_si_eq, dk_sr_sr, dk_sr_same]
      rw [h0, if_pos (by rw [g2])]
      by_cases g0 : ld = 0
      · rw [if_pos (hl0.mpr g0)]
        refine ⟨_, rfl, fun q hq => dk_sr_ne _ _ hq, rfl, ?_, ?_, ?_, ?_⟩ <;> rw [dk_sr_same]
        · simp (disch := omega) only [upd_ne, upd_same]; exact h0
        · simp (disch := omega) only [upd_ne, upd_same]; exact k1
        · simp (disch := omega) only [upd_ne, upd_same]; rw [k2, nI_1]
        · simp (disch := omega) only [upd_ne, upd_same, if_pos g0]; rw [k3, Int32.add_zero]; rfl
      · rw [if_neg (fun q => g0 (hl0.mp q))]
        refine ⟨_, rfl, fun q hq => dk_sr_ne _ _ hq, rfl, ?_, ?_, ?_, ?_⟩ <;> rw [dk_sr_same]
        · simp (disch := omega) only [upd_ne, upd_same]; exact h0
        · simp (disch := omega) only [upd_ne, upd_same]; exact k1
        · simp (disch := omega) only [upd_ne, upd_same]; rw [k2, nI_1]
        · simp (disch := omega) only [upd_ne, upd_same, if_neg g0]; rw [k3, nI_1]
    · have hee := he2 (by omega)
      rw [if_neg g2, if_pos ((nI_leI (by omega) (by omega)).mpr (by omega))]
      dsimp only
      rw [h0, if_neg (fun q => by have := (nI_eq (by omega) (by omega)).mp q; omega)]
      exact ⟨S, rfl, fun _ _ => rfl, rfl, h0, k1, k2, k3⟩
theorem l_d_le {sz : Nat → Int32} {rb : Int32} {q : Nat → Nat} {N : Nat} (hsz : i_sz sz) (hN1 : 1 ≤ N) (hq : ∀ j, q j ≤ 99) (c i : Nat) : l_d sz rb q c i ≤ 99 := by
  have hok := a_ok_sz hsz
  obtain ⟨o1, -⟩ := o_h_ok (P := c_P (l_sz sz (c % 10)) (nI (c / 10)) rb) (by
    have : (c_P (l_sz sz (c % 10)) (nI (c / 10)) rb).2.2.2.2 = 20 + 8 * sz 0 := by
      show 20 + 8 * l_sz sz (c % 10) 0 = _
      unfold l_sz
      rw [upd_ne _ _ (by omega), upd_ne _ _ (by omega)]
    rw [this]; exact hok.2) (hq 0) i
  unfold l_d o_d
  have := hq i
  omega
theorem l_o_lt {sz : Nat → Int32} {rb : Int32} {q : Nat → Nat} {N : Nat} (hsz : i_sz sz) (hN1 : 1 ≤ N) (hN : N ≤ 60) (hq : ∀ j, q j ≤ 99) (c : Nat) : l_o sz rb q N c < 2147483647 := by
  have := o_f_le (fun i => l_d_le (rb := rb) hsz hN1 hq c i) (N - 1) 1 0
  unfold l_o
  omega
theorem e_s27 {S0 : dk_S} {sz : Nat → Int32} {rb : Int32} {r N s : Nat} {q : Nat → Nat} (hr : r < 6) (hN1 : 1 ≤ N) (hN : N ≤ 60) (hs : s ≤ 99) (hsz : i_sz sz) (hq : ∀ j, q j ≤ 99) (s31 : S0.1 (31 + 2 * r) 1 = nI N) (s32 : ∀ j, j < N → S0.1 (32 + 2 * r) j = nI (q j)) (kx : dk_S → Option dk_S) : ∀ (m ld : Nat) (S : dk_S), ld ≤ 10 → 10 - ld < m → s_J S0 sz rb (l_o sz rb q N) (10 * s + ld) S → ∃ T, fX2_search_L27 17 (31 + 2 * r) (nI s) kx m (nI ld) S = kx T ∧ s_J S0 sz rb (l_o sz rb q N) (10 * s + 10) T := by
  have ho := l_o_lt (rb := rb) hsz hN1 hN hq
  intro m
  induction m with
  | zero => intro ld S h1 h2; omega
  | succ m ih =>
    intro ld S h1 h2 hJ
    rw [fX2_search_L27]
    by_cases hi : ld = 10
    · subst hi
      rw [if_pos (show (9 : Int32) < nI 10 from by decide)]
      exact ⟨S, rfl, hJ⟩
    · rw [if_neg (show ¬ (9 : Int32) < nI ld from fun g => by have := (nI_ltI (a := 9) (by omega) (by omega)).mp g; omega), dk_lt_eq]
      obtain ⟨⟨z, z1, z2, z3⟩, ⟨j1, j2⟩, j3, j4⟩ := hJ
      have cm : (10 * s + ld) % 10 = ld := by omega
      have cd : (10 * s + ld) / 10 = s := by omega
      have hT : c_T (l_sz sz ld) rb (dk_si S 19 4 (nI ld)) := (z3.set 4 (nI ld)).cg (fun j hj => by
        rw [← l_sz_cg z1 ld j hj, upd_at _ 5]
        by_cases h5 : j = 5
        · rw [if_pos h5, h5, upd_ne _ _ (by omega), z2]
        · rw [if_neg h5])
      have h20 : (20 + 8 * l_sz sz ld 0).toInt ≤ 99 := by
        unfold l_sz
        rw [upd_ne _ _ (by omega), upd_ne _ _ (by omega)]
        exact (a_ok_sz hsz).2
      have hb := g_s_b ho (10 * s + ld)
      obtain ⟨A, a1, a2, a3, a4⟩ := q_coff (S := dk_si S 19 4 (nI ld)) (sl := nI s) (q := q) hr hN1 hN h20 hb.1 (fun j _ => hq j) (by rw [dk_si_eq, dk_sr_ne _ _ (by omega), j3 _ (by omega)]; exact s31) (fun j hj => by rw [dk_si_eq, dk_sr_ne _ _ (by omega), j3 _ (by omega)]; exact s32 j hj) (by rw [dk_si_eq, dk_sr_ne _ _ (by omega)]; exact j1) hT
      rw [show (17 + 2 : Nat) = 19 from rfl, a1, some_bind']
      obtain ⟨e1, e2, e3⟩ := o_e_ok (l_d sz rb q (10 * s + ld)) (g_s (l_o sz rb q N) (10 * s + ld)).1 (N - 1) 1 0
      have hdd : (fun i => o_d (o_h (c_P (l_sz sz ld) (nI s) rb) (q 0) i) (q i)) = l_d sz rb q (10 * s + ld) := by
        funext i
        unfold l_d
        rw [cm, cd]
      rw [hdd]
      have hA29 : A.1 29 = S.1 29 := by rw [a3 29 (by omega), dk_si_eq, dk_sr_ne _ _ (by omega)]
      obtain ⟨W, w1, w2, w3, w4, w5, w6, w7⟩ := q_weigh (S := A) (o := l_o sz rb q N) (c := 10 * s + ld) (s := s) (ld := ld) rfl (by omega) hs ho e1 e2 e3 (by rw [hA29]; exact j1) (by rw [hA29]; exact j2)
      dsimp only
      rw [w1, some_bind', nI_1]
      refine ih (ld + 1) W (by omega) (by omega) ⟨⟨l_sz sz ld, fun j hj => ?_, ?_, ⟨fun j hj => ?_, ?_, fun j hj => ?_⟩⟩, ⟨w4, fun _ => ⟨w5, w6, w7⟩⟩, fun p hp => ?_, ?_⟩
      · unfold l_sz; rw [upd_ne _ _ (by omega), upd_ne _ _ (by omega)]
      · unfold l_sz; rw [upd_same]
      · rw [w2 19 (by omega)]; exact a2.1 j hj
      · rw [w2 20 (by omega)]; exact a2.2.1
      · rw [w2 21 (by omega)]; exact a2.2.2 j hj
      · rw [w2 p (by omega), a3 p (by omega), dk_si_eq, dk_sr_ne _ _ (by omega)]; exact j3 p hp
      · rw [w3, a4]; exact j4
theorem e_s18 {S0 : dk_S} {sz : Nat → Int32} {rb : Int32} {r N : Nat} {q : Nat → Nat} (hr : r < 6) (hN1 : 1 ≤ N) (hN : N ≤ 60) (hsz : i_sz sz) (hq : ∀ j, q j ≤ 99) (s31 : S0.1 (31 + 2 * r) 1 = nI N) (s32 : ∀ j, j < N → S0.1 (32 + 2 * r) j = nI (q j)) : ∀ (m s : Nat) (S : dk_S), s ≤ 100 → 100 - s < m → s_J S0 sz rb (l_o sz rb q N) (10 * s) S → ∃ T, fX2_search_L18 17 (31 + 2 * r) m (nI s) S = some T ∧ s_J S0 sz rb (l_o sz rb q N) n_1000 T := by
  intro m
  induction m with
  | zero => intro s S h1 h2; omega
  | succ m ih =>
    intro s S h1 h2 hJ
    rw [fX2_search_L18]
    by_cases hi : s = 100
    · rw [if_pos (show (100 : Int32) ≤ nI s from by rw [hi]; decide)]
      refine ⟨S, rfl, ?_⟩
      have : n_1000 = 10 * s := by rw [n_1000_eq, hi]
      rw [this]; exact hJ
    · rw [if_neg (show ¬ (100 : Int32) ≤ nI s from fun g => by have := (nI_leI (a := 100) (by omega) (by omega)).mp g; omega)]
      obtain ⟨A, a1, a2⟩ := e_s27 hr hN1 hN (show s ≤ 99 by omega) hsz hq s31 s32 (fun t4 : dk_S => fX2_search_L18 17 (31 + 2 * r) m (nI s + 1) t4) dk_FU 0 S (by omega) (by have := dk_FU_ge; omega) hJ
      rw [nI_0] at a1
      rw [a1, nI_1]
      exact ih (s + 1) A (by omega) (by omega) (by rw [show 10 * (s + 1) = 10 * s + 10 by omega]; exact a2)
theorem q_search {S0 S1 : dk_S} {sz : Nat → Int32} {rb : Int32} {r N : Nat} {q : Nat → Nat} (hr : r < 6) (hN1 : 1 ≤ N) (hN : N ≤ 60) (hsz : i_sz sz) (hq : ∀ j, q j ≤ 99) (s31 : S0.1 (31 + 2 * r) 1 = nI N) (s32 : ∀ j, j < N → S0.1 (32 + 2 * r) j = nI (q j)) (hT : c_T sz rb S1) (hsm : c_sm S0 S1) (h22 : S1.2 = S0.2) : ∃ T, fX2_search 17 (31 + 2 * r) S1 = some T ∧ s_J S0 sz rb (l_o sz rb q N) n_1000 T := by
  unfold fX2_search
  rw [dk_lt_eq, dk_lt_eq]
  refine e_s18 hr hN1 hN hsz hq s31 s32 dk_FU 0 _ (by omega) (by have := dk_FU_ge; omega) ⟨⟨upd sz 5 0, fun j hj => upd_ne _ _ (by omega), upd_same _ _ _, ?_⟩, ⟨?_, fun h => by omega⟩, fun p hp => ?_, ?_⟩
  · refine c_T.set ?_ 5 0
    obtain ⟨t1, t2, t3⟩ := hT
    exact ⟨fun j hj => by rw [dk_si_eq, dk_sr_ne _ _ (by omega)]; exact t1 j hj, by rw [dk_si_eq, dk_sr_ne _ _ (by omega)]; exact t2, fun j hj => by rw [dk_si_eq, dk_sr_ne _ _ (by omega)]; exact t3 j hj⟩
  · rw [dk_si_eq, dk_sr_ne _ _ (by omega), dk_si_eq, dk_sr_same, upd_same]; rfl
  · rw [dk_si_eq, dk_sr_ne _ _ (by omega), dk_si_eq, dk_sr_ne _ _ (by omega)]; exact hsm.1 p (by omega)
  · exact h22
/-- a place that the invariant does not speak of -/
theorem dk_I_29 {n : Nat} {S : dk_S} (g : Nat → Int32) (hI : dk_I n S) : dk_I n (dk_sr S 29 g) := by
  obtain ⟨⟨a1, a2, a3, a4, a5⟩, hX, hS⟩ := hI
  exact ⟨⟨by rw [dk_sr_ne _ _ (by omega), dk_sr_ne _ _ (by omega)]; exact a1, fun j hj => by rw [dk_sr_ne _ _ (by omega), dk_sr_ne _ _ (by omega)]; exact a2 j hj, by rw [dk_sr_ne _ _ (by omega), dk_sr_ne _ _ (by omega)]; exact a3, a4, a5⟩, i_X_congr (fun q hq => dk_sr_ne _ _ (by unfold i_core at hq; omega)) hX, hS⟩
theorem s_J.sm {S0 S : dk_S} {sz : Nat → Int32} {rb : Int32} {o : Nat → Nat} {c : Nat} (h : s_J S0 sz rb o c S) : c_sm (dk_sr S0 29 (S.1 29)) S := ⟨fun q hq => by
  by_cases h9 : q = 29
  · subst h9; rw [dk_sr_same]
  · rw [dk_sr_ne _ _ h9]; exact h.2.2.1 q (by omega), fun q _ _ => by rw [h.2.2.2]; rfl⟩
