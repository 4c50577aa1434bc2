/-! A GOING, as numbers -/
def p_ix (p f : Int32) : Nat := (2 * p + f).toNatClampNeg
abbrev p_Z : Type := Nat × (Nat → Option Nat) × (Nat → Int32) × Int32 × Int32 × Int32
def p_go (P : p_P) : Nat → Nat → (Nat → Option Nat) → (Nat → Int32) → Int32 → Int32 → Int32 → p_Z
  | 0, n, wh, pcs, p, f, i => (n, wh, pcs, p, f, i)
  | c + 1, n, wh, pcs, p, f, i => if i = 0 ∧ wh (p_ix p f) = none then p_go P c (n + 1) (fun j => if j = p_ix p f then some n else wh j) (fun j => if j = n + 1 then (p_S P 0 p f).1 else pcs j) (p_S P 0 p f).1 (p_S P 0 p f).2.1 (p_S P 0 p f).2.2 else (n, wh, pcs, p, f, i)
/-- what holds on the way -/
def p_I (n : Nat) (wh : Nat → Option Nat) (pcs : Nat → Int32) (p f i : Int32) : Prop := (i = 0 → (∃ a, a ≤ 99 ∧ p = nI a) ∧ (f = 0 ∨ f = 1)) ∧ (i = 0 ∨ i = 1 ∨ i = 2) ∧ pcs n = p ∧ (∀ j m, wh j = some m → m < n ∧ ∃ a b, a ≤ 99 ∧ b ≤ 1 ∧ j = 2 * a + b ∧ pcs m = nI a)
theorem p_ix_nI {a b : Nat} (ha : a ≤ 1000) (hb : b ≤ 1) : (2 : Int32) * nI a + nI b = nI (2 * a + b) ∧ p_ix (nI a) (nI b) = 2 * a + b := by
  have h : (2 : Int32) * nI a + nI b = nI (2 * a + b) := by rw [show (2 : Int32) = nI 2 from rfl, nI_mul, nI_add]
  exact ⟨h, by unfold p_ix; rw [h, nI_clamp (by omega)]⟩
theorem p_foot {f : Int32} (h : f = 0 ∨ f = 1) : ∃ b, b ≤ 1 ∧ f = nI b := by
  rcases h with h | h
  · exact ⟨0, by omega, h⟩
  · exact ⟨1, by omega, h⟩
theorem p_S_i (P : p_P) (bm p f : Int32) : (p_S P bm p f).2.2 = 0 ∨ (p_S P bm p f).2.2 = 1 ∨ (p_S P bm p f).2.2 = 2 := by
  unfold p_S
  by_cases h3 : 3 ≤ p_q P bm p f
  · rw [if_pos h3]
    by_cases h4 : p_q P bm p f ≤ P.2.2.2.2
    · rw [if_pos h4]; exact Or.inl rfl
    · rw [if_neg h4]; exact Or.inr (Or.inr rfl)
  · rw [if_neg h3]; exact Or.inr (Or.inl rfl)
theorem p_S_ok {P : p_P} (hl : P.2.2.2.2.toInt ≤ 99) (bm p f : Int32) (hf : f = 0 ∨ f = 1) (h : (p_S P bm p f).2.2 = 0) : (∃ a, a ≤ 99 ∧ (p_S P bm p f).1 = nI a) ∧ ((p_S P bm p f).2.1 = 0 ∨ (p_S P bm p f).2.1 = 1) := by
  unfold p_S at h ⊢
  by_cases h3 : 3 ≤ p_q P bm p f
  · rw [if_pos h3] at h ⊢
    by_cases h4 : p_q P bm p f ≤ P.2.2.2.2
    · rw [if_pos h4]
      rw [i32_le] at h3 h4
      have e3 : (3 : Int32).toInt = 3 := rfl
      obtain ⟨j, hj, e⟩ := nI_of (x := p_q P bm p f) (by rw [i32_lt]; have e0 : (0 : Int32).toInt = 0 := rfl; omega)
      refine ⟨⟨j, ?_, e⟩, ?_⟩
      · have := congrArg Int32.toInt e
        rw [nI_toInt hj] at this
        omega
      · rcases hf with rfl | rfl
        · exact Or.inr rfl
        · exact Or.inl rfl
    · rw [if_neg h4] at h; exact absurd (show (2 : Int32) = 0 from h) (by decide)
  · rw [if_neg h3] at h; exact absurd (show (1 : Int32) = 0 from h) (by decide)
theorem p_I_next {P : p_P} (hl : P.2.2.2.2.toInt ≤ 99) {n : Nat} {wh : Nat → Option Nat} {pcs : Nat → Int32} {p f : Int32} (h : p_I n wh pcs p f 0) : p_I (n + 1) (fun j => if j = p_ix p f then some n else wh j) (fun j => if j = n + 1 then (p_S P 0 p f).1 else pcs j) (p_S P 0 p f).1 (p_S P 0 p f).2.1 (p_S P 0 p f).2.2 := by
  obtain ⟨h1, h2, h3, h4⟩ := h
  obtain ⟨⟨a, ha, rfl⟩, hf⟩ := h1 rfl
  refine ⟨fun hi => p_S_ok hl _ _ _ hf hi, p_S_i _ _ _ _, if_pos rfl, fun j m hj => ?_⟩
  obtain ⟨b, hb, rfl⟩ := p_foot hf
  have e := (p_ix_nI (a := a) (by omega) hb).2
  dsimp only at hj
  by_cases hjx : j = p_ix (nI a) (nI b)
  · rw [if_pos hjx] at hj
    cases hj
    refine ⟨by omega, a, b, ha, hb, by rw [hjx, e], ?_⟩
    dsimp only
    rw [if_neg (by omega)]
    exact h3
  · rw [if_neg hjx] at hj
    obtain ⟨g1, a', b', g2, g3, g4, g5⟩ := h4 j m hj
    refine ⟨by omega, a', b', g2, g3, g4, ?_⟩
    dsimp only
    rw [if_neg (by omega)]
    exact g5
theorem p_go_I {P : p_P} (hl : P.2.2.2.2.toInt ≤ 99) : ∀ (c n : Nat) (wh : Nat → Option Nat) (pcs : Nat → Int32) (p f i : Int32), p_I n wh pcs p f i → p_I (p_go P c n wh pcs p f i).1 (p_go P c n wh pcs p f i).2.1 (p_go P c n wh pcs p f i).2.2.1 (p_go P c n wh pcs p f i).2.2.2.1 (p_go P c n wh pcs p f i).2.2.2.2.1 (p_go P c n wh pcs p f i).2.2.2.2.2 := by
  intro c
  induction c with
  | zero => intro n wh pcs p f i h; exact h
  | succ c ih =>
    intro n wh pcs p f i h
    rw [p_go]
    by_cases hc : i = 0 ∧ wh (p_ix p f) = none
    · rw [if_pos hc]
      obtain ⟨rfl, -⟩ := hc
      exact ih _ _ _ _ _ _ (p_I_next hl h)
    · rw [if_neg hc]; exact h
theorem dk_cmp_lt (x y : Int64) : lg_cmp x y < 0 ↔ x.toInt < y.toInt := by
  unfold lg_cmp
  by_cases h : x > y
  · rw [if_pos h]
    have h' := Int64.lt_iff_toInt_lt.mp h
    exact ⟨fun q => absurd q (by decide), fun q => by omega⟩
  · rw [if_neg h]
    have h' : ¬ y.toInt < x.toInt := fun q => h (Int64.lt_iff_toInt_lt.mpr q)
    by_cases h2 : x = y
    · rw [if_pos h2]; subst h2; exact ⟨fun q => absurd q (by decide), fun q => by omega⟩
    · rw [if_neg h2]
      refine ⟨fun _ => ?_, fun _ => by decide⟩
      rcases Int.lt_trichotomy x.toInt y.toInt with q | q | q
      · exact q
      · exact absurd (Int64.toInt_inj.mp q) h2
      · exact absurd q h'
/-- the class's look at a pace and foot -/
noncomputable def p_chk (kx63 : dk_S → Option (dk_S)) (kx131 : (Int32 × Int32 × dk_S) → Option (dk_S)) (m : Nat) (x3 : Int32) (t12 : dk_S) : Option dk_S := (if (t12.1 17 7) = 0 then dk_lt ((2 * (t12.1 17 4)) + (t12.1 17 5)) (fun y15 : Int32 => (fX8_isOutside y15 0 199 t12).bind (fun r16 => if r16.1 = 0 then dk_gd (dk_in y15 200) (if (lg_cmp (r16.2.2 23 y15.toNatClampNeg) (r16.2.2 16 7)) < 0 then dk_gd (dk_in y15 200) (dk_lt (dk_sl r16.2 23 y15.toNatClampNeg ((r16.2.2 16 7) + x3.toInt64)) (fun S19 => dk_gd (dk_in x3 401) (dk_lt (dk_si S19 22 x3.toNatClampNeg (S19.1 17 4)) (fun S20 => fX7_find_L34 kx63 kx131 m (x3 + 1) S20)))) else kx131 (x3, y15, r16.2)) else some r16.2)) else kx63 t12 : Option (dk_S))
theorem q_findL (kx63 : dk_S → Option (dk_S)) (kx131 : (Int32 × Int32 × dk_S) → Option (dk_S)) (m : Nat) (x3 : Int32) (S : dk_S) : fX7_find_L34 kx63 kx131 (m + 1) x3 S = if 400 < x3 then some S else if x3 ≤ 0 then p_chk kx63 kx131 m x3 S else (fX0_stride 17 S).bind (fun r22 => p_chk kx63 kx131 m x3 r22.2) := by
  rw [fX7_find_L34]
  rfl
/-- the class on the way: S0 as it was at the loop's begin, T now -/
def c_R (S0 : dk_S) (c : Nat → Int32) (n : Nat) (wh : Nat → Option Nat) (pcs : Nat → Int32) (p f i : Int32) (T : dk_S) : Prop :=
  (∀ a, ¬ a = 17 → ¬ a = 22 → T.1 a = S0.1 a) ∧ (∀ a, ¬ a = 23 → T.2 a = S0.2 a) ∧ (∃ lo we, T.1 17 = c_row c p f (nI n) i lo we) ∧ (∀ j, j < n → T.1 22 j = pcs j) ∧ (∀ j m, wh j = some m → j < 200 → (T.2 23 j).toInt = (S0.2 16 7).toInt + m) ∧ (∀ j, wh j = none → j < 200 → (T.2 23 j).toInt < (S0.2 16 7).toInt)
theorem l_stamp {x : Int64} {n : Nat} (h0 : 0 ≤ x.toInt) (h1 : x.toInt ≤ 10000000000) (hn : n ≤ 400) : (x + (nI n).toInt64).toInt = x.toInt + n := by
  rw [Int64.toInt_add, Int32.toInt_toInt64, nI_toInt (by omega)]
  exact Int.bmod_eq_of_le (by omega) (by omega)
/-- one look -/
theorem e_look {S0 : dk_S} {c : Nat → Int32} (hs0 : 0 ≤ (S0.2 16 7).toInt) (hs1 : (S0.2 16 7).toInt ≤ 10000000000) (kx63 : dk_S → Option (dk_S)) (kx131 : (Int32 × Int32 × dk_S) → Option (dk_S)) {n m : Nat} {wh : Nat → Option Nat} {pcs : Nat → Int32} {p f i : Int32} {T : dk_S} (hn : n ≤ 400) (hI : p_I n wh pcs p f i) (hR : c_R S0 c n wh pcs p f i T) :
    (¬ i = 0 → p_chk kx63 kx131 m (nI n) T = kx63 T) ∧ (i = 0 → ∀ m0, wh (p_ix p f) = some m0 → p_chk kx63 kx131 m (nI n) T = kx131 (nI n, 2 * p + f, T)) ∧ (i = 0 → wh (p_ix p f) = none → ∃ T2, p_chk kx63 kx131 m (nI n) T = fX7_find_L34 kx63 kx131 m (nI (n + 1)) T2 ∧ (∀ a, ¬ a = 22 → T2.1 a = T.1 a) ∧ (∀ a, ¬ a = 23 → T2.2 a = T.2 a) ∧ (∀ j, j < n + 1 → T2.1 22 j = pcs j) ∧ (∀ j k, (if j = p_ix p f then some n else wh j) = some k → j < 200 → (T2.2 23 j).toInt = (S0.2 16 7).toInt + k) ∧ (∀ j, (if j = p_ix p f then some n else wh j) = none → j < 200 → (T2.2 23 j).toInt < (S0.2 16 7).toInt)) := by
  obtain ⟨r1, r2, ⟨lo, we, r3⟩, r4, r5, r6⟩ := hR
  have e16 : T.2 16 = S0.2 16 := r2 16 (by omega)
  refine ⟨fun hi => ?_, fun hi m0 hw => ?_, fun hi hw => ?_⟩
  · unfold p_chk
    rw [r3, c_row_7, if_neg hi]
  · obtain ⟨⟨a, ha, rfl⟩, hf⟩ := hI.1 hi
    obtain ⟨b, hb, rfl⟩ := p_foot hf
    obtain ⟨e1, e2⟩ := p_ix_nI (a := a) (b := b) (by omega) hb
    rw [e2] at hw
    have h5 := r5 _ _ hw (by omega)
    unfold p_chk
    subst hi
    rw [r3, c_row_7, if_pos rfl, c_row_4, c_row_5, e1, dk_lt_eq]
    simp only [q_isOutside, some_bind']
    rw [nI_clamp (by omega), e16]
    rw [if_pos (show 0 ≤ nI (2 * a + b) ∧ nI (2 * a + b) ≤ 199 from ⟨nI_ge0 (by omega), (nI_leI (b := 199) (by omega) (by omega)).mpr (by omega)⟩), if_pos rfl, dI_in (by omega) (by omega), dk_gd_t, if_neg (by rw [dk_cmp_lt]; omega)]
  · obtain ⟨⟨a, ha, rfl⟩, hf⟩ := hI.1 hi
    obtain ⟨b, hb, rfl⟩ := p_foot hf
    obtain ⟨e1, e2⟩ := p_ix_nI (a := a) (b := b) (by omega) hb
    rw [e2] at hw
    have h6 := r6 _ hw (by omega)
    rw [e2]
    refine ⟨dk_si (dk_sl T 23 (2 * a + b) (S0.2 16 7 + (nI n).toInt64)) 22 n (nI a), ?_, ?_, ?_, ?_, ?_, ?_⟩
    · unfold p_chk
      subst hi
      rw [r3, c_row_7, if_pos rfl, c_row_4, c_row_5, e1, dk_lt_eq]
      simp only [q_isOutside, some_bind']
      rw [nI_clamp (by omega), e16]
      rw [if_pos (show 0 ≤ nI (2 * a + b) ∧ nI (2 * a + b) ≤ 199 from ⟨nI_ge0 (by omega), (nI_leI (b := 199) (by omega) (by omega)).mpr (by omega)⟩), if_pos rfl, dI_in (by omega) (by omega), dk_gd_t, if_pos (by rw [dk_cmp_lt]; omega), dk_gd_t, dk_lt_eq, dI_in (by omega) (by omega), dk_gd_t, dk_lt_eq, nI_clamp (by omega), nI_1]
      rw [dk_sl_eq, dk_sq_1, r3, c_row_4]
    · intro q hq
      rw [dk_si_eq, dk_sr_ne _ _ hq, dk_sl_eq, dk_sq_1]
    · intro q hq
      rw [dk_si_eq, dk_sr_2, dk_sl_eq, dk_sq_2, if_neg hq]
    · intro j hj
      rw [dk_si_eq, dk_sr_same, dk_sl_eq, dk_sq_1]
      by_cases hjn : j = n
      · subst hjn
        rw [upd_same]
        exact hI.2.2.1.symm
      · rw [upd_ne _ _ hjn]
        exact r4 j (by omega)
    · intro j k hj hj2
      rw [dk_si_eq, dk_sr_2, dk_sl_eq, dk_sq_2, if_pos rfl]
      unfold vp_updL
      by_cases hjx : j = 2 * a + b
      · rw [if_pos hjx] at hj ⊢
        cases hj
        exact l_stamp hs0 hs1 hn
      · rw [if_neg hjx] at hj ⊢
        exact r5 j k hj hj2
    · intro j hj hj2
      rw [dk_si_eq, dk_sr_2, dk_sl_eq, dk_sq_2, if_pos rfl]
      unfold vp_updL
      by_cases hjx : j = 2 * a + b
      · rw [if_pos hjx] at hj
        cases hj
      · rw [if_neg hjx] at hj ⊢
        exact r6 j hj hj2
theorem e_find {S0 : dk_S} {c : Nat → Int32} (hb : ∀ j, j < 100 → S0.1 21 j = 0) (hl : (c_P (S0.1 19) (c 3) (S0.1 20 1)).2.2.2.2.toInt ≤ 99) (hs0 : 0 ≤ (S0.2 16 7).toInt) (hs1 : (S0.2 16 7).toInt ≤ 10000000000) (kx63 : dk_S → Option (dk_S)) (kx131 : (Int32 × Int32 × dk_S) → Option (dk_S)) :
    ∀ (d n m : Nat) (wh : Nat → Option Nat) (pcs : Nat → Int32) (p f i : Int32) (T : dk_S), n + d = 400 → d + 1 ≤ m → p_I n wh pcs p f i → c_R S0 c n wh pcs p f i T → ∃ (z : p_Z) (T2 : dk_S), z = p_go (c_P (S0.1 19) (c 3) (S0.1 20 1)) d n wh pcs p f i ∧ z.1 ≤ 400 ∧ p_I z.1 z.2.1 z.2.2.1 z.2.2.2.1 z.2.2.2.2.1 z.2.2.2.2.2 ∧ c_R S0 c z.1 z.2.1 z.2.2.1 z.2.2.2.1 z.2.2.2.2.1 z.2.2.2.2.2 T2 ∧
      ((¬ z.2.2.2.2.2 = 0 ∧ p_chk kx63 kx131 m (nI n) T = kx63 T2) ∨ (z.2.2.2.2.2 = 0 ∧ (∃ m0, z.2.1 (p_ix z.2.2.2.1 z.2.2.2.2.1) = some m0) ∧ p_chk kx63 kx131 m (nI n) T = kx131 (nI z.1, 2 * z.2.2.2.1 + z.2.2.2.2.1, T2)) ∨
        (z.2.2.2.2.2 = 0 ∧ z.2.1 (p_ix z.2.2.2.1 z.2.2.2.2.1) = none ∧ ∃ T3, p_chk kx63 kx131 m (nI n) T = some T3 ∧ (∀ a, ¬ a = 17 → ¬ a = 22 → T3.1 a = S0.1 a) ∧ (∀ a, ¬ a = 23 → T3.2 a = S0.2 a) ∧ (∀ j, j < 200 → (T3.2 23 j).toInt ≤ (S0.2 16 7).toInt + 400))) := by
  intro d
  induction d with
  | zero =>
    intro n m wh pcs p f i T hnd hm hI hR
    refine ⟨(n, wh, pcs, p, f, i), T, rfl, by show n ≤ 400; omega, hI, hR, ?_⟩
    obtain ⟨l1, l2, l3⟩ := e_look hs0 hs1 kx63 kx131 (m := m) (by omega) hI hR
    show (¬ i = 0 ∧ _) ∨ (i = 0 ∧ (∃ m0, wh (p_ix p f) = some m0) ∧ _) ∨ (i = 0 ∧ wh (p_ix p f) = none ∧ _)
    by_cases hi : i = 0
    · cases hw : wh (p_ix p f) with
      | some m0 => exact Or.inr (Or.inl ⟨hi, ⟨m0, rfl⟩, l2 hi m0 hw⟩)
      | none =>
        obtain ⟨T2, g1, g2, g3, g4, g5, g6⟩ := l3 hi hw
        refine Or.inr (Or.inr ⟨hi, rfl, T2, ?_, fun a h1 h2 => ?_, fun a h1 => ?_, fun j hj => ?_⟩)
        · rw [g1]
          obtain ⟨m', rfl⟩ : ∃ m', m = m' + 1 := ⟨m - 1, by omega⟩
          rw [q_findL, if_pos (show (400 : Int32) < nI (n + 1) from (nI_ltI (a := 400) (b := n + 1) (by omega) (by omega)).mpr (by omega))]
        · rw [g2 a h2, hR.1 a h1 h2]
        · rw [g3 a h1, hR.2.1 a h1]
        · cases hj2 : (if j = p_ix p f then some n else wh j) with
          | none => have := g6 j hj2 hj; omega
          | some k =>
            have h7 := g5 j k hj2 hj
            have h8 : k ≤ 400 := by
              by_cases hjx : j = p_ix p f
              · rw [if_pos hjx] at hj2; cases hj2; omega
              · rw [if_neg hjx] at hj2; have := (hI.2.2.2 j k hj2).1; omega
            omega
    · exact Or.inl ⟨hi, l1 hi⟩
  | succ d ih =>
    intro n m wh pcs p f i T hnd hm hI hR
    obtain ⟨l1, l2, l3⟩ := e_look hs0 hs1 kx63 kx131 (m := m) (by omega) hI hR
    by_cases hc : i = 0 ∧ wh (p_ix p f) = none
    · obtain ⟨hi, hw⟩ := hc
      obtain ⟨T2, g1, g2, g3, g4, g5, g6⟩ := l3 hi hw
      obtain ⟨m', rfl⟩ : ∃ m', m = m' + 1 := ⟨m - 1, by omega⟩
      obtain ⟨r1, r2, ⟨lo, we, r3⟩, r4, r5, r6⟩ := hR
      subst hi
      have hrow : T2.1 17 = c_row c p f (nI n) 0 lo we := by rw [g2 17 (by omega), r3]
      have e19 : T2.1 (17 + 2) = S0.1 19 := by rw [g2 _ (by omega), r1 _ (by omega) (by omega)]
      have e20 : T2.1 (17 + 3) = S0.1 20 := by rw [g2 _ (by omega), r1 _ (by omega) (by omega)]
      have e21 : T2.1 (17 + 4) = S0.1 21 := by rw [g2 _ (by omega), r1 _ (by omega) (by omega)]
      have hst := q_stride hrow (by omega : n < 2 ^ 31)
      have hbm : c_b (S0.1 21) n = 0 := by
        unfold c_b
        by_cases h99 : n ≤ 99
        · rw [if_pos h99, hb n (by omega)]
        · rw [if_neg h99]
      rw [e19, e20, e21, hbm] at hst
      generalize hP : c_P (S0.1 19) (c 3) (S0.1 20 1) = P at hst hl ih ⊢
      have hnext := p_I_next hl hI
      obtain ⟨z, T3, hz, hz4, hzI, hzR, hzc⟩ := ih (n + 1) m' (fun j => if j = p_ix p f then some n else wh j) (fun j => if j = n + 1 then (p_S P 0 p f).1 else pcs j) (p_S P 0 p f).1 (p_S P 0 p f).2.1 (p_S P 0 p f).2.2 (dk_sr T2 17 (c_row c (p_S P 0 p f).1 (p_S P 0 p f).2.1 (nI (n + 1)) (p_S P 0 p f).2.2 (lo + p * p / P.2.2.1) (we + (S0.1 19 3 + (p_S P 0 p f).1 / 10)))) (by omega) (by omega) hnext (by
        refine ⟨fun a h1 h2 => ?_, fun a h1 => ?_, ⟨_, _, dk_sr_same _ _ _⟩, fun j hj => ?_, fun j k hj hj2 => ?_, fun j hj hj2 => ?_⟩
        · rw [dk_sr_ne _ _ h1, g2 a h2, r1 a h1 h2]
        · rw [dk_sr_2, g3 a h1, r2 a h1]
        · rw [dk_sr_ne _ _ (by omega)]
          dsimp only
          rw [if_neg (by omega)]
          exact g4 j (by omega)
        · rw [dk_sr_2]; exact g5 j k hj hj2
        · rw [dk_sr_2]; exact g6 j hj hj2)
      have hstep : p_chk kx63 kx131 (m' + 1) (nI n) T = p_chk kx63 kx131 m' (nI (n + 1)) (dk_sr T2 17 (c_row c (p_S P 0 p f).1 (p_S P 0 p f).2.1 (nI (n + 1)) (p_S P 0 p f).2.2 (lo + p * p / P.2.2.1) (we + (S0.1 19 3 + (p_S P 0 p f).1 / 10)))) := by
        rw [g1, q_findL, if_neg (fun q => by have := (nI_ltI (a := 400) (by omega) (by omega)).mp q; omega), if_neg (nI_nle (by omega) (by omega)), hst, some_bind']
      refine ⟨z, T3, ?_, hz4, hzI, hzR, ?_⟩
      · rw [hz, p_go, if_pos ⟨rfl, hw⟩]
      · rw [hstep]
        exact hzc
    · refine ⟨(n, wh, pcs, p, f, i), T, by rw [p_go, if_neg hc], by show n ≤ 400; omega, hI, hR, ?_⟩
      show (¬ i = 0 ∧ _) ∨ (i = 0 ∧ (∃ m0, wh (p_ix p f) = some m0) ∧ _) ∨ (i = 0 ∧ wh (p_ix p f) = none ∧ _)
      by_cases hi : i = 0
      · cases hw : wh (p_ix p f) with
        | some m0 => exact Or.inr (Or.inl ⟨hi, ⟨m0, rfl⟩, l2 hi m0 hw⟩)
        | none => exact absurd ⟨hi, hw⟩ hc
      · exact Or.inl ⟨hi, l1 hi⟩
