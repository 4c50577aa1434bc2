/-! a walker and a board are looked at -/
def c_T (sz : Nat → Int32) (rb : Int32) (S : dk_S) : Prop := (∀ j, j < 6 → S.1 19 j = sz j) ∧ S.1 20 1 = rb ∧ (∀ j, j < 100 → S.1 21 j = 0)
def c_ok (B : Int) (S : dk_S) : Prop := 0 ≤ (S.2 16 7).toInt ∧ (S.2 16 7).toInt ≤ B ∧ ∀ j, j < 200 → (S.2 23 j).toInt ≤ (S.2 16 7).toInt + 400
def c_sm (S S1 : dk_S) : Prop := (∀ q, ¬ (16 ≤ q ∧ q ≤ 28) → S1.1 q = S.1 q) ∧ (∀ q, ¬ q = 16 → ¬ q = 23 → S1.2 q = S.2 q)
def m_T (sz : Nat → Int32) (rb sl p0 p1 : Int32) (S : dk_S) : Prop := (∀ j, j < 6 → S.1 95 j = sz j) ∧ S.1 82 20 = rb ∧ S.1 82 21 = sl ∧ S.1 96 0 = p0 ∧ S.1 96 1 = p1 ∧ S.1 82 23 = -9
def m_sm (S S2 : dk_S) : Prop := (∀ q, q < 95 ∨ q = 97 ∨ q = 98 → ¬ q = 82 → S2.1 q = S.1 q) ∧ S2.2 = S.2 ∧ (∀ j, j < 20 → S2.1 82 j = S.1 82 j)
theorem c_sm.rf (S : dk_S) : c_sm S S := ⟨fun _ _ => rfl, fun _ _ _ => rfl⟩
theorem c_sm.tr {S T U : dk_S} (h : c_sm S T) (g : c_sm T U) : c_sm S U := ⟨fun q h1 => (g.1 q h1).trans (h.1 q h1), fun q h1 h2 => (g.2 q h1 h2).trans (h.2 q h1 h2)⟩
theorem m_sm.rf (S : dk_S) : m_sm S S := ⟨fun _ _ _ => rfl, rfl, fun _ _ => rfl⟩
theorem m_sm.tr {S T U : dk_S} (h : m_sm S T) (g : m_sm T U) : m_sm S U := ⟨fun q h1 h2 => (g.1 q h1 h2).trans (h.1 q h1 h2), g.2.1.trans h.2.1, fun j hj => (g.2.2 j hj).trans (h.2.2 j hj)⟩
theorem c_ok.up {B C : Int} {S : dk_S} (h : c_ok B S) (hC : B ≤ C) : c_ok C S := ⟨h.1, by have := h.2.1; omega, h.2.2⟩
theorem c_ok.of {n : Nat} {S : dk_S} (h : i_S n S) : c_ok (10000000 * (n : Int)) S := h
theorem c_ok.c {B : Int} {S S2 : dk_S} (h : c_ok B S) (h1 : S2.2 16 = S.2 16) (h2 : S2.2 23 = S.2 23) : c_ok B S2 := by
  unfold c_ok; rw [h1, h2]; exact h
theorem cp6 : dk_cpok 0 0 6 6 6 = true := by decide
theorem q_take (k0 k1 : Nat) (S : dk_S) (h : ¬ k1 = k0 + 1) : fX1_take k0 k1 S = some (dk_sr (dk_sr S (k0 + 1) (fun j => if j < 6 then S.1 (k1 + 1) j else S.1 (k0 + 1) j)) k0 (upd (S.1 k0) 1 (S.1 k1 1))) := by
  unfold fX1_take
  rw [cp6, dk_gd_t, dk_lt_eq, dk_lt_eq, dk_si_eq, dk_sr_ne _ _ (by omega : ¬ k0 = k0 + 1), dk_sr_ne _ _ h]
  congr 3
  funext j
  unfold va_cpy
  show (if 0 ≤ j ∧ j < 0 + 6 then _ else _) = _
  by_cases hj : j < 6
  · rw [if_pos (by omega), if_pos hj, show Int32.toNatClampNeg 0 + (j - Int32.toNatClampNeg 0) = j from (by show 0 + (j - 0) = j; omega)]
  · rw [if_neg (by omega), if_neg hj]
theorem q_clear (k : Nat) (S : dk_S) : fX3_clear k S = some (dk_sr (dk_sr S (k + 1) (fun j => if j < 100 then 0 else S.1 (k + 1) j)) k (upd (S.1 k) 1 1)) := by
  unfold fX3_clear
  rw [q_fill _ _ _ _ (by omega), some_bind', dk_lt_eq, dk_si_eq, dk_sr_ne _ _ (by omega)]
theorem q_isReady {S : dk_S} {k l : Nat} (hk : k < 4) (hl : l < 4) (hW : i_W S) (hB : i_B S) : (S.1 89 k = 1 ∧ S.1 91 l = 1 ∧ ∃ S1, fX8_isReady (nI k) (nI l) S = some (1, S1) ∧ c_T (S.1 (52 + 2 * k)) (S.1 (59 + 2 * l) 1) S1 ∧ c_sm S S1 ∧ S1.2 = S.2 ∧ S1.1 18 1 = S.1 (51 + 2 * k) 1) ∨ (¬ (S.1 89 k = 1 ∧ S.1 91 l = 1) ∧ fX8_isReady (nI k) (nI l) S = some (0, S)) := by
  obtain ⟨w1, w2, -⟩ := hW k hk
  obtain ⟨b1, b2, -⟩ := hB l hl
  unfold fX8_isReady
  rw [dI_in hk (by omega), dk_gd_t, nI_clamp (by omega), w1, dI_in hl (by omega), dk_gd_t, nI_clamp (by omega), b1]
  rcases w2 with w2 | w2
  · rw [w2, if_pos rfl]
    exact Or.inr ⟨fun q => absurd q.1 (by decide), rfl⟩
  · rw [w2, if_neg (by decide)]
    rcases b2 with b2 | b2
    · rw [b2, if_pos rfl]
      exact Or.inr ⟨fun q => absurd q.2 (by decide), rfl⟩
    · rw [b2, if_neg (by decide)]
      refine Or.inl ⟨rfl, rfl, ?_⟩
      rw [dk_gd_t, q_take _ _ _ (by omega), some_bind', q_clear, some_bind', dk_gd_t, dk_lt_eq]
      refine ⟨_, rfl, ⟨fun j hj => ?_, ?_, fun j hj => ?_⟩, ⟨fun q hq => ?_, fun q _ _ => rfl⟩, rfl, ?_⟩
      · simp (disch := omega) only [dk_si_eq, dk_sr_ne, dk_sr_same, dk_sr_sr]
        rw [if_pos hj, show 51 + 2 * k + 1 = 52 + 2 * k by omega]
      · simp (disch := omega) only [dk_si_eq, dk_sr_ne, dk_sr_same, dk_sr_sr, upd_same]
      · simp (disch := omega) only [dk_si_eq, dk_sr_ne, dk_sr_same, dk_sr_sr]
        rw [if_pos hj]
      · simp (disch := omega) only [dk_si_eq, dk_sr_ne]
      · simp (disch := omega) only [dk_si_eq, dk_sr_ne, dk_sr_same, dk_sr_sr, upd_same]
theorem e_looks (k : Nat) (hk : k < 4) (x2 x3 : Int32) (kx : dk_S → Option dk_S) : ∀ (m i : Nat) (S : dk_S), i ≤ 6 → 6 - i < m → fX9_looksAt_L3 (nI k) x2 x3 kx m (nI i) S = kx (dk_sr S 95 (fun j => if i ≤ j ∧ j < 6 then S.1 90 (7 * k + j) else S.1 95 j)) := by
  intro m
  induction m with
  | zero => intro i S h1 h2; omega
  | succ m ih =>
    intro i S h1 h2
    rw [fX9_looksAt_L3, show (7 : Int32) = nI 7 from rfl, nI_mul, nI_add]
    by_cases h : 6 ≤ i
    · rw [if_pos (show (6 : Int32) ≤ nI i from (nI_leI (a := 6) (by omega) (by omega)).mpr h)]
      congr 1
      conv => lhs; rw [← dk_sr_id S 95]
      congr 1
      funext j
      rw [if_neg (by omega)]
    · rw [if_neg (show ¬ (6 : Int32) ≤ nI i from fun q => h ((nI_leI (a := 6) (by omega) (by omega)).mp q)), dI_in (by omega) (by omega), dk_gd_t, dI_in (by omega) (by omega), dk_gd_t, dk_lt_eq, nI_1, nI_clamp (by omega), nI_clamp (by omega), ih (i + 1) _ (by omega) (by omega), dk_si_eq, dk_sr_sr, dk_sr_same, dk_sr_ne _ _ (by omega)]
      congr 2
      funext j
      by_cases hj : j = i
      · subst hj
        rw [if_neg (by omega), if_pos (by omega), upd_same]
      · rw [upd_ne _ _ hj]
        by_cases hj2 : i ≤ j ∧ j < 6
        · rw [if_pos hj2, if_pos (by omega)]
        · rw [if_neg hj2, if_neg (by omega)]
theorem q_looksAt {S : dk_S} {k l : Nat} (hk : k < 4) (hl : l < 4) (sl : Int32) : ∃ S2, fX9_looksAt (nI k) (nI l) sl S = some S2 ∧ m_T (fun j => S.1 90 (7 * k + j)) (S.1 92 (101 * l)) sl 0 0 S2 ∧ m_sm S S2 ∧ (∀ q, 99 ≤ q → S2.1 q = S.1 q) := by
  unfold fX9_looksAt
  have h := e_looks k hk (nI l) sl (fun t1 : dk_S => dk_gd (dk_in (101 * (nI l)) 404) (dk_lt (dk_si t1 82 20 (t1.1 92 (101 * (nI l)).toNatClampNeg)) (fun S2 => dk_lt (dk_si S2 82 21 sl) (fun S3 => dk_lt (dk_si S3 96 0 0) (fun S4 => dk_lt (dk_si S4 96 1 0) (fun S5 => dk_lt (dk_si S5 82 23 (-9)) (fun S6 => some S6))))))) dk_FU 0 S (by omega) (by have := dk_FU_ge; omega)
  rw [nI_0] at h
  rw [h]
  rw [show (101 : Int32) = nI 101 from rfl, nI_mul, dI_in (by omega) (by omega), dk_gd_t, nI_clamp (by omega)]
  simp only [dk_lt_eq]
  refine ⟨_, rfl, ⟨fun j hj => ?_, ?_, ?_, ?_, ?_, ?_⟩, ⟨fun q h1 h2 => ?_, rfl, fun j hj => ?_⟩, fun q hq => ?_⟩
  · simp (disch := omega) only [dk_si_eq, dk_sr_ne, dk_sr_same]
    rw [if_pos (by omega)]
  · simp (disch := omega) only [dk_si_eq, dk_sr_ne, dk_sr_same, upd_ne, upd_same]
  · simp (disch := omega) only [dk_si_eq, dk_sr_ne, dk_sr_same, upd_ne, upd_same]
  · simp (disch := omega) only [dk_si_eq, dk_sr_ne, dk_sr_same, upd_ne, upd_same]
  · simp (disch := omega) only [dk_si_eq, dk_sr_ne, dk_sr_same, upd_ne, upd_same]
  · simp (disch := omega) only [dk_si_eq, dk_sr_ne, dk_sr_same, upd_ne, upd_same]
  · simp (disch := omega) only [dk_si_eq, dk_sr_ne]
  · simp (disch := omega) only [dk_si_eq, dk_sr_ne, dk_sr_same, upd_ne]
  · simp (disch := omega) only [dk_si_eq, dk_sr_ne]
/-- the model's need, behind numbers that are good -/
theorem q_need {S : dk_S} {k l s a : Nat} {x : Int32} (hx : ¬ x = 0) (hk : k < 4) (hl : l < 4) (hs : s ≤ 99) (ha : a ≤ 99) (w2 : S.1 89 k = 0 ∨ S.1 89 k = 1) (b2 : S.1 91 l = 0 ∨ S.1 91 l = 1) : (S.1 89 k = 1 ∧ S.1 91 l = 1 → ∃ S2, fX9_need x (nI k) (nI l) (nI s) (nI a) S = some (0, S2) ∧ m_T (fun j => S.1 90 (7 * k + j)) (S.1 92 (101 * l)) (nI s) 0 0 S2 ∧ m_sm S S2) ∧ (¬ (S.1 89 k = 1 ∧ S.1 91 l = 1) → fX9_need x (nI k) (nI l) (nI s) (nI a) S = some (-3, q_nts S 1)) := by
  unfold fX9_need
  have g1 : (0 ≤ nI k ∧ nI k ≤ 3) := ⟨nI_ge0 (by omega), (nI_leI (b := 3) (by omega) (by omega)).mpr (by omega)⟩
  have g2 : (0 ≤ nI l ∧ nI l ≤ 3) := ⟨nI_ge0 (by omega), (nI_leI (b := 3) (by omega) (by omega)).mpr (by omega)⟩
  have g3 : (0 ≤ nI s ∧ nI s ≤ 99) := ⟨nI_ge0 (by omega), (nI_leI (b := 99) (by omega) (by omega)).mpr (by omega)⟩
  have g4 : (0 ≤ nI a ∧ nI a ≤ 99) := ⟨nI_ge0 (by omega), (nI_leI (b := 99) (by omega) (by omega)).mpr (by omega)⟩
  rw [if_neg hx, q_areGood, if_pos ⟨g1, g2, g3, g4⟩, some_bind', if_neg (show ¬ (1 : Int32) = 0 by decide)]
  rw [dI_in hk (by omega), dk_gd_t, nI_clamp (by omega), dI_in hl (by omega), dk_gd_t, nI_clamp (by omega), q_notes1]
  constructor
  · intro ⟨h1, h2⟩
    rw [h1, h2, if_neg (by decide), if_neg (by decide)]
    obtain ⟨S2, e1, e2, e3, -⟩ := q_looksAt (S := S) hk hl (nI s)
    exact ⟨S2, by rw [e1]; rfl, e2, e3⟩
  · intro h
    rcases w2 with w2 | w2
    · rw [w2, if_pos rfl]; rfl
    · rcases b2 with b2 | b2
      · rw [w2, if_neg (by decide), b2, if_pos rfl]; rfl
      · exact absurd ⟨w2, b2⟩ h
/-- behind calls that only look -/
theorem an_I {n : Nat} {S S2 : dk_S} (hI : dk_I n S) (h1 : ∀ q, i_core q → S2.1 q = S.1 q) (h2 : S2.1 30 = S.1 30) (h3 : S2.1 83 = S.1 83) (h4 : S2.1 0 11 = S.1 0 11) (h5 : S2.1 82 0 = S.1 82 0) (h6 : S2.1 0 12 = S2.1 82 2) (h7 : S2.2 0 13 = S2.2 82 3) (h8 : S2.2 0 14 = S2.2 82 4) (h9 : c_ok (10000000 * ((n + 1 : Nat) : Int)) S2) : dk_I (n + 1) S2 := by
  obtain ⟨⟨a1, a2, a3, a4, a5⟩, hX, hS⟩ := hI
  exact ⟨⟨by rw [h4, h5]; exact a1, fun j hj => by rw [h2, h3]; exact a2 j hj, h6, h7, h8⟩, i_X_congr h1 hX, h9⟩
theorem an_tell {n : Nat} {S Sx Sy : dk_S} {v : Int32} {B : Int} (hI : dk_I n S) (hc : c_sm S Sx) (hB : c_ok B Sx) (hB2 : B ≤ 10000000 * ((n + 1 : Nat) : Int)) (hm : m_sm (dk_sr Sx 0 (upd (Sx.1 0) 12 v)) Sy) : dk_I (n + 1) (dk_sr Sy 82 (upd (Sy.1 82) 2 v)) := by
  have h0 : ∀ q, ¬ q = 0 → ¬ q = 82 → (q < 95 ∨ q = 97 ∨ q = 98) → ¬ (16 ≤ q ∧ q ≤ 28) → (dk_sr Sy 82 (upd (Sy.1 82) 2 v)).1 q = S.1 q := fun q q1 q2 q3 q4 => by
    rw [dk_sr_ne _ _ q2, hm.1 q q3 q2, dk_sr_ne _ _ q1, hc.1 q q4]
  have e2 : ∀ q, ¬ q = 16 → ¬ q = 23 → (dk_sr Sy 82 (upd (Sy.1 82) 2 v)).2 q = S.2 q := fun q q1 q2 => by rw [dk_sr_2, hm.2.1, dk_sr_2, hc.2 q q1 q2]
  refine an_I hI (fun q hq => h0 q (by unfold i_core at hq; omega) (by unfold i_core at hq; omega) (by unfold i_core at hq; omega) (by unfold i_core at hq; omega)) (h0 30 (by omega) (by omega) (by omega) (by omega)) (h0 83 (by omega) (by omega) (by omega) (by omega)) ?_ ?_ ?_ ?_ ?_ ((hB.c (by rw [dk_sr_2, hm.2.1, dk_sr_2]) (by rw [dk_sr_2, hm.2.1, dk_sr_2])).up hB2)
  · rw [dk_sr_ne _ _ (by omega), hm.1 0 (by omega) (by omega), dk_sr_same, upd_ne _ _ (by omega), hc.1 0 (by omega)]
  · rw [dk_sr_same, upd_ne _ _ (by omega), hm.2.2 0 (by omega), dk_sr_ne _ _ (by omega), hc.1 82 (by omega)]
  · rw [dk_sr_ne _ _ (by omega), hm.1 0 (by omega) (by omega), dk_sr_same, upd_same, dk_sr_same, upd_same]
  · rw [e2 0 (by omega) (by omega), e2 82 (by omega) (by omega)]; exact hI.1.2.2.2.1
  · rw [e2 0 (by omega) (by omega), e2 82 (by omega) (by omega)]; exact hI.1.2.2.2.2
theorem an_none {n : Nat} {S Sx Sy : dk_S} {B : Int} (hI : dk_I n S) (hc : c_sm S Sx) (hB : c_ok B Sx) (hB2 : B ≤ 10000000 * ((n + 1 : Nat) : Int)) (hm : m_sm Sx Sy) : dk_I (n + 1) Sy := by
  have h0 : ∀ q, ¬ q = 82 → (q < 95 ∨ q = 97 ∨ q = 98) → ¬ (16 ≤ q ∧ q ≤ 28) → Sy.1 q = S.1 q := fun q q2 q3 q4 => by
    rw [hm.1 q q3 q2, hc.1 q q4]
  have e2 : ∀ q, ¬ q = 16 → ¬ q = 23 → Sy.2 q = S.2 q := fun q q1 q2 => by rw [hm.2.1, hc.2 q q1 q2]
  refine an_I hI (fun q hq => h0 q (by unfold i_core at hq; omega) (by unfold i_core at hq; omega) (by unfold i_core at hq; omega)) (h0 30 (by omega) (by omega) (by omega)) (h0 83 (by omega) (by omega) (by omega)) ?_ ?_ ?_ ?_ ?_ ((hB.c (by rw [hm.2.1]) (by rw [hm.2.1])).up hB2)
  · rw [h0 0 (by omega) (by omega) (by omega)]
  · rw [hm.2.2 0 (by omega), hc.1 82 (by omega)]
  · rw [h0 0 (by omega) (by omega) (by omega), hm.2.2 2 (by omega), hc.1 82 (by omega)]; exact hI.1.2.2.1
  · rw [e2 0 (by omega) (by omega), e2 82 (by omega) (by omega)]; exact hI.1.2.2.2.1
  · rw [e2 0 (by omega) (by omega), e2 82 (by omega) (by omega)]; exact hI.1.2.2.2.2
/-! a GOING by numbers, from a state in which a walker and a board are looked at -/
noncomputable def g_K (P : p_P) (a : Nat) : Int32 × Nat × Int32 × Int32 := p_K P (p_res P (nI a))
theorem c_P_congr {f g : Nat → Int32} (h : ∀ j, j < 6 → f j = g j) (sl rb : Int32) : c_P f sl rb = c_P g sl rb := by
  unfold c_P
  rw [h 0 (by omega), h 1 (by omega), h 2 (by omega), h 3 (by omega), h 4 (by omega), h 5 (by omega)]
theorem m_P_congr {f g : Nat → Int32} (h : ∀ j, j < 6 → f j = g j) (sl rb : Int32) (pu : Nat → Int32) : m_P f sl rb pu = m_P g sl rb pu := by
  unfold m_P
  rw [h 0 (by omega), h 1 (by omega), h 2 (by omega), h 3 (by omega), h 4 (by omega), h 5 (by omega)]
/-- the model's numbers with two pushes are a walker's, if its damp is above 0 -/
def a_P (sz : Nat → Int32) (sl rb p0 p1 : Int32) : p_P := (((sl * sz 3) / 10 + sz 4) + p0, ((sl * sz 3) / 10 + sz 5) + p1, (8 + 2 * sz 1) - sz 2, rb, 20 + 8 * sz 0)
def a_ok (sz : Nat → Int32) : Prop := 1 ≤ (8 + 2 * sz 1) - sz 2 ∧ (20 + 8 * sz 0).toInt ≤ 99
theorem a_P_c {sz : Nat → Int32} (h : a_ok sz) (sl rb : Int32) : c_P sz sl rb = a_P sz sl rb 0 0 := by
  unfold c_P a_P
  rw [Int32.add_zero, Int32.add_zero]
  congr 3
  by_cases h1 : 1 < (8 + 2 * sz 1) - sz 2
  · rw [if_pos h1]
  · rw [if_neg h1]
    have h2 := h.1
    rw [i32_lt] at h1
    rw [i32_le] at h2
    exact i32_eq.mpr (by omega)
theorem p_K_cyc {P : p_P} {z : p_Z} (hk : (p_K P z).1 = 1 ∨ (p_K P z).1 = 6 ∨ (p_K P z).1 = 2 ∨ (p_K P z).1 = 7) : z.2.2.2.2.2 = 0 ∧ ∃ m0, z.2.1 (p_ix z.2.2.2.1 z.2.2.2.2.1) = some m0 := by
  by_cases hi : z.2.2.2.2.2 = 0
  · cases hw : z.2.1 (p_ix z.2.2.2.1 z.2.2.2.2.1) with
    | none =>
      unfold p_K at hk
      rw [if_pos hi, hw] at hk
      dsimp only at hk
      exact absurd hk (by decide)
    | some m0 => exact ⟨hi, m0, rfl⟩
  · unfold p_K at hk
    rw [if_neg hi] at hk
    by_cases h1 : z.2.2.2.2.2 = 1
    · rw [if_pos h1] at hk; dsimp only at hk; exact absurd hk (by decide)
    · rw [if_neg h1] at hk; dsimp only at hk; exact absurd hk (by decide)
theorem p_kd_45 (lim lo hi : Int32) (tr : Nat) : ¬ (p_kd lim lo hi tr = 4 ∨ p_kd lim lo hi tr = 5) := by
  unfold p_kd
  by_cases h1 : lo = hi
  · rw [if_pos h1]
    by_cases h2 : lo ≤ lim / 2
    · rw [if_pos h2]; decide
    · rw [if_neg h2]; decide
  · rw [if_neg h1]
    by_cases h2 : 4 < tr
    · rw [if_pos h2]; decide
    · rw [if_neg h2]
      by_cases h3 : tr = 4
      · rw [if_pos h3]; decide
      · rw [if_neg h3]; decide
theorem p_K_end {P : p_P} {z : p_Z} (hk : (p_K P z).1 = 4 ∨ (p_K P z).1 = 5) : ¬ z.2.2.2.2.2 = 0 := by
  intro hi
  unfold p_K at hk
  rw [if_pos hi] at hk
  revert hk
  cases z.2.1 (p_ix z.2.2.2.1 z.2.2.2.2.1) with
  | none => intro h; dsimp only at h; exact absurd h (by decide)
  | some m0 => intro h; exact p_kd_45 _ _ _ _ h
theorem q_find2 {S : dk_S} {sz : Nat → Int32} {rb : Int32} {B : Int} {a : Nat} (sl : Int32) (hT : c_T sz rb S) (hl : (20 + 8 * sz 0).toInt ≤ 99) (hB : c_ok B S) (hB2 : B ≤ 8000000000) (ha : a ≤ 99) :
    ∃ T, fX7_find sl (nI a) S = some T ∧ c_T sz rb T ∧ c_sm S T ∧ c_ok (B + 401) T ∧ T.1 18 = S.1 18 ∧ T.1 16 1 = (g_K (c_P sz sl rb) a).1 ∧ T.1 16 2 = nI (g_K (c_P sz sl rb) a).2.1 ∧ (((g_K (c_P sz sl rb) a).1 = 1 ∨ (g_K (c_P sz sl rb) a).1 = 6 ∨ (g_K (c_P sz sl rb) a).1 = 2 ∨ (g_K (c_P sz sl rb) a).1 = 7) → T.1 16 3 = (g_K (c_P sz sl rb) a).2.2.1 ∧ T.1 16 4 = (g_K (c_P sz sl rb) a).2.2.2) ∧ (((g_K (c_P sz sl rb) a).1 = 4 ∨ (g_K (c_P sz sl rb) a).1 = 5) → T.1 17 6 = nI (p_res (c_P sz sl rb) (nI a)).1) := by
  obtain ⟨t1, t2, t3⟩ := hT
  obtain ⟨z, T, hz, e1, e2, e3, e4, e5, e6, e7, e8, e9⟩ := q_find (S := S) sl ha t3 (by rw [t1 0 (by omega)]; exact hl) hB.1 (by have := hB.2.1; omega) hB.2.2
  rw [t2, c_P_congr t1] at hz e2 e3 e4
  subst hz
  have o19 : T.1 19 = S.1 19 := e6 19 (by omega) (by omega) (by omega)
  have o20 : T.1 20 = S.1 20 := e6 20 (by omega) (by omega) (by omega)
  have o21 : T.1 21 = S.1 21 := e6 21 (by omega) (by omega) (by omega)
  refine ⟨T, e1, ⟨fun j hj => by rw [o19]; exact t1 j hj, by rw [o20]; exact t2, fun j hj => by rw [o21]; exact t3 j hj⟩, ⟨fun q hq => e6 q (by omega) (by omega) (by omega), fun q h1 h2 => e7 q h1 h2⟩, ⟨by rw [e8]; have := hB.1; omega, by rw [e8]; have := hB.2.1; omega, e9⟩, e6 18 (by omega) (by omega) (by omega), e2, e3, fun hk => ?_, fun hk => ?_⟩
  · obtain ⟨hi, m0, hw⟩ := p_K_cyc hk
    exact e4 m0 hi hw
  · exact e5 (p_K_end hk)
theorem q_going2 {S : dk_S} {sz : Nat → Int32} {rb sl p0 p1 : Int32} {a : Nat} (hT : m_T sz rb sl p0 p1 S) (hok : a_ok sz) (ha : a ≤ 99) :
    ∃ T, fX9_goingOf (nI a) S = some ((g_K (a_P sz sl rb p0 p1) a).1, T) ∧ m_T sz rb sl p0 p1 T ∧ m_sm S T ∧ (∀ q, 101 ≤ q → T.1 q = S.1 q) ∧ T.1 95 = S.1 95 ∧ T.1 82 35 = nI (g_K (a_P sz sl rb p0 p1) a).2.1 ∧ T.1 82 34 = nI (p_res (a_P sz sl rb p0 p1) (nI a)).1 ∧ (((g_K (a_P sz sl rb p0 p1) a).1 = 1 ∨ (g_K (a_P sz sl rb p0 p1) a).1 = 6 ∨ (g_K (a_P sz sl rb p0 p1) a).1 = 2 ∨ (g_K (a_P sz sl rb p0 p1) a).1 = 7) → T.1 82 36 = (g_K (a_P sz sl rb p0 p1) a).2.2.1 ∧ T.1 82 37 = (g_K (a_P sz sl rb p0 p1) a).2.2.2) := by
  obtain ⟨t1, t2, t3, t4, t5, t6⟩ := hT
  have hD : ¬ (8 + 2 * S.1 95 1) - S.1 95 2 = 0 := by
    rw [t1 1 (by omega), t1 2 (by omega)]
    intro h
    have := hok.1
    rw [h] at this
    exact absurd this (by decide)
  obtain ⟨z, T, hz, e1, e2, e3, e4, e5, e6, e7⟩ := q_going (S := S) ha t6 hD (by rw [t1 0 (by omega)]; exact hok.2)
  have hP : m_P (S.1 95) (S.1 82 21) (S.1 82 20) (S.1 96) = a_P sz sl rb p0 p1 := by
    rw [t2, t3, m_P_congr t1]
    unfold m_P a_P
    rw [t4, t5]
  rw [hP] at hz e1 e2 e4
  subst hz
  have o95 : T.1 95 = S.1 95 := e5 95 (by omega) (by omega) (by omega)
  have o96 : T.1 96 = S.1 96 := e5 96 (by omega) (by omega) (by omega)
  refine ⟨T, e1, ⟨fun j hj => by rw [o95]; exact t1 j hj, by rw [e7 20 (by omega)]; exact t2, by rw [e7 21 (by omega)]; exact t3, by rw [o96]; exact t4, by rw [o96]; exact t5, by rw [e7 23 (by omega)]; exact t6⟩, ⟨fun q h1 h2 => e5 q h2 (by omega) (by omega), e6, fun j hj => e7 j (by omega)⟩, fun q hq => e5 q (by omega) (by omega) (by omega), o95, e2, e3, fun hk => ?_⟩
  obtain ⟨hi, m0, hw⟩ := p_K_cyc hk
  exact e4 m0 hi hw
/-- sizes as a walker's are such -/
theorem a_ok_sz {sz : Nat → Int32} (h : i_sz sz) : a_ok sz := by
  obtain ⟨a, b, c, d, x, y, e0, e1, e2, e3, e4, e5, h0, h1, h2, h3, h4, h5⟩ := h
  constructor
  · rw [e1, e2, show (8 : Int32) = nI 8 from rfl, show (2 : Int32) = nI 2 from rfl, nI_mul, nI_add, nI_sub (by omega)]
    exact (nI_leI (a := 1) (by omega) (by omega)).mpr (by omega)
  · rw [e0, show (20 : Int32) = nI 20 from rfl, show (8 : Int32) = nI 8 from rfl, nI_mul, nI_add, nI_toInt (by omega)]
    omega
