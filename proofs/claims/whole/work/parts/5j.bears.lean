/-! bears -/
theorem c_b_congr {f g : Nat → Int32} (h : ∀ j, j < 100 → f j = g j) (st : Nat) : c_b f st = c_b g st := by
  unfold c_b
  by_cases h9 : st ≤ 99
  · rw [if_pos h9, if_pos h9, h st (by omega)]
  · rw [if_neg h9, if_neg h9]
theorem w_go_congr {P : p_P} {f g : Nat → Int32} (h : ∀ j, j < 100 → f j = g j) (s3 : Int32) : ∀ (k t st : Nat) (p fo i lo we : Int32), w_go P f s3 k t st p fo i lo we = w_go P g s3 k t st p fo i lo we := by
  intro k
  induction k with
  | zero => intro t st p fo i lo we; rfl
  | succ k ih => intro t st p fo i lo we; rw [w_go, w_go, c_b_congr h, ih]
/-- bumps of one step alone -/
def b_1 (t : Nat) (d : Int32) : Nat → Int32 := fun j => if j = t then d else 0
/-- behind 200 steps it goes -/
noncomputable def b_200 : Nat := Classical.choose (⟨200, rfl⟩ : ∃ n : Nat, n = 200)
theorem b_200_eq : b_200 = 200 := Classical.choose_spec (⟨200, rfl⟩ : ∃ n : Nat, n = 200)
noncomputable def b_E (P : p_P) (s3 : Int32) (t : Nat) (p d : Int32) : Bool := decide ((w_go P (b_1 t d) s3 b_200 0 0 p 0 0 0 0).2.2.2.2.1 = 0)
noncomputable def b_M (P : p_P) (s3 : Int32) (t : Nat) (p : Int32) : Nat → Nat
  | 0 => 0
  | d + 1 => if b_E P s3 t p (nI (d + 1)) = true then d + 1 else b_M P s3 t p d
theorem b_M_le (P : p_P) (s3 : Int32) (t : Nat) (p : Int32) : ∀ d, b_M P s3 t p d ≤ d := by
  intro d
  induction d with
  | zero => exact Nat.le_refl _
  | succ d ih =>
    rw [b_M]
    by_cases h : b_E P s3 t p (nI (d + 1)) = true
    · rw [if_pos h]; exact Nat.le_refl _
    · rw [if_neg h]; omega
def c_U (sz : Nat → Int32) (rb : Int32) (t : Nat) (S : dk_S) : Prop := (∀ j, j < 6 → S.1 19 j = sz j) ∧ S.1 20 1 = rb ∧ (∀ j, j < 100 → ¬ j = t → S.1 21 j = 0)
theorem q_bump {S : dk_S} {sz : Nat → Int32} {rb sl p d : Int32} {t : Nat} (ht : t < 100) (h : c_U sz rb t S) : ∃ T, fX8_bearsBump sl p (nI t) d S = some (k_b (b_E (c_P sz sl rb) (sz 3) t p d), T) ∧ c_U sz rb t T ∧ c_sm S T ∧ T.2 = S.2 := by
  obtain ⟨u1, u2, u3⟩ := h
  unfold fX8_bearsBump
  rw [dI_in ht (by omega), dk_gd_t, dk_lt_eq, nI_clamp (by omega), q_begin, some_bind']
  obtain ⟨A, hA⟩ : ∃ A, A = dk_sr (dk_si S 21 t d) 17 (c_row (upd ((dk_si S 21 t d).1 17) 3 sl) p 0 (nI 0) 0 0 0) := ⟨_, rfl⟩
  rw [← hA]
  have a17 : A.1 17 = c_row (upd ((dk_si S 21 t d).1 17) 3 sl) p 0 (nI 0) 0 0 0 := by rw [hA, dk_sr_same]
  have a21 : A.1 21 = upd (S.1 21) t d := by rw [hA, dk_sr_ne _ _ (by omega), dk_si_eq, dk_sr_same]
  have ao : ∀ q, ¬ q = 17 → ¬ q = 21 → A.1 q = S.1 q := fun q q1 q2 => by rw [hA, dk_sr_ne _ _ q1, dk_si_eq, dk_sr_ne _ _ q2]
  have a2 : A.2 = S.2 := by rw [hA]; rfl
  clear hA
  have hc := e_cgo (k0 := 17) (c := upd ((dk_si S 21 t d).1 17) 3 sl) dk_FU 200 0 0 p 0 0 0 0 A (by have := dk_FU_ge; omega) (by omega) (by omega) a17
  rw [show (17 + 2 : Nat) = 19 from rfl, show (17 + 3 : Nat) = 20 from rfl, show (17 + 4 : Nat) = 21 from rfl, upd_same, ao 19 (by omega) (by omega), ao 20 (by omega) (by omega), c_P_c u1, u2, u1 3 (by omega), a21, w_go_congr (g := b_1 t d) (fun j hj => by
    unfold b_1
    rw [upd_at]
    by_cases hjt : j = t
    · rw [if_pos hjt, if_pos hjt]
    · rw [if_neg hjt, if_neg hjt, u3 j hj hjt])] at hc
  have hE : b_E (c_P sz sl rb) (sz 3) t p d = decide ((w_go (c_P sz sl rb) (b_1 t d) (sz 3) 200 0 0 p 0 0 0 0).2.2.2.2.1 = 0) := by unfold b_E; rw [b_200_eq]
  generalize w_go (c_P sz sl rb) (b_1 t d) (sz 3) 200 0 0 p 0 0 0 0 = z at hc hE
  have hc' : fX0_strideOn 17 200 A = _ := hc
  rw [hc', some_bind']
  dsimp only
  rw [dk_sr_same, c_row_7, hE]
  refine ⟨dk_sr A 17 (c_row (upd ((dk_si S 21 t d).1 17) 3 sl) z.2.2.1 z.2.2.2.1 (nI z.2.1) z.2.2.2.2.1 z.2.2.2.2.2.1 z.2.2.2.2.2.2), ?_, ⟨fun j hj => ?_, ?_, fun j hj hjt => ?_⟩, ⟨fun q hq => ?_, fun q _ _ => by rw [dk_sr_2, a2]⟩, a2⟩
  · by_cases hz : z.2.2.2.2.1 = 0
    · rw [if_pos hz, decide_eq_true hz]; rfl
    · rw [if_neg hz, decide_eq_false hz]; rfl
  · rw [dk_sr_ne _ _ (by omega), ao 19 (by omega) (by omega)]; exact u1 j hj
  · rw [dk_sr_ne _ _ (by omega), ao 20 (by omega) (by omega)]; exact u2
  · rw [dk_sr_ne _ _ (by omega), a21, upd_ne _ _ hjt]; exact u3 j hj hjt
  · rw [dk_sr_ne _ _ (by omega), ao q (by omega) (by omega)]
theorem e_cbears {S0 : dk_S} {sz : Nat → Int32} {rb sl p : Int32} {t : Nat} (ht : t < 100) : ∀ (m d : Nat) (S : dk_S), d ≤ 99 → d < m → c_U sz rb t S → c_sm S0 S → S.2 = S0.2 → ∃ T, fX8_bears_L59 sl p (nI t) m (nI d) S = some (nI (b_M (c_P sz sl rb) (sz 3) t p d), T) ∧ c_sm S0 T ∧ T.2 = S0.2 := by
  intro m
  induction m with
  | zero => intro d S h1 h2; omega
  | succ m ih =>
    intro d S h1 h2 hU hsm h22
    rw [fX8_bears_L59]
    cases d with
    | zero =>
      rw [if_pos (show nI 0 ≤ (0 : Int32) from by decide)]
      exact ⟨S, rfl, hsm, h22⟩
    | succ d =>
      obtain ⟨T, t1, t2, t3, t4⟩ := q_bump (d := nI (d + 1)) (sl := sl) (p := p) ht hU
      rw [if_neg (nI_nle (by omega) (by omega)), t1, some_bind', b_M]
      cases hb : b_E (c_P sz sl rb) (sz 3) t p (nI (d + 1)) with
      | true =>
        rw [if_neg k_b_t, if_pos rfl]
        exact ⟨T, rfl, hsm.tr t3, by rw [t4, h22]⟩
      | false =>
        rw [if_pos k_b_f, if_neg (show ¬ (false = true) by decide), show nI (d + 1) + (-1) = nI d by rw [← nI_pred d, Int32.sub_eq_add_neg]]
        exact ih d T (by omega) (by omega) t2 (hsm.tr t3) (by rw [t4, h22])
/-- the model, with a bump at one step -/
def m_B (sz : Nat → Int32) (rb sl : Int32) (t : Nat) (S : dk_S) : Prop := (∀ j, j < 6 → S.1 95 j = sz j) ∧ S.1 82 20 = rb ∧ S.1 82 21 = sl ∧ S.1 96 0 = 0 ∧ S.1 96 1 = 0 ∧ S.1 82 23 = nI t
theorem m_B.row {sz : Nat → Int32} {rb sl : Int32} {t : Nat} {S : dk_S} {g : Nat → Int32} (h : m_B sz rb sl t S) (hg : ∀ j, j < 24 → g j = S.1 82 j) : m_B sz rb sl t (dk_sr S 82 g) := by
  obtain ⟨t1, t2, t3, t4, t5, t6⟩ := h
  exact ⟨fun j hj => by rw [dk_sr_ne _ _ (by omega)]; exact t1 j hj, by rw [dk_sr_same, hg 20 (by omega)]; exact t2, by rw [dk_sr_same, hg 21 (by omega)]; exact t3, by rw [dk_sr_ne _ _ (by omega)]; exact t4, by rw [dk_sr_ne _ _ (by omega)]; exact t5, by rw [dk_sr_same, hg 23 (by omega)]; exact t6⟩
theorem m_sm.row20 {S : dk_S} {g : Nat → Int32} (hg : ∀ j, j < 20 → g j = S.1 82 j) : m_sm S (dk_sr S 82 g) := ⟨fun p _ hp => by rw [dk_sr_ne _ _ hp], rfl, fun j hj => by rw [dk_sr_same, hg j (by omega)]⟩
theorem x_mstb {S : dk_S} {sz : Nat → Int32} {rb sl p f lo we d : Int32} {t st : Nat} {c : Nat → Int32} (hT : m_B sz rb sl t S) (hok : a_ok sz) (h : S.1 82 = m_row c p f 0 lo we) (hd : S.1 82 24 = d) (hf : f = 0 ∨ f = 1) (ht : t < 100) (hst : st < 2 ^ 31) :
    fX9_steps (nI st) S = some (dk_sr S 82 (m_row c (p_S (c_P sz sl rb) (c_b (b_1 t d) st) p f).1 (p_S (c_P sz sl rb) (c_b (b_1 t d) st) p f).2.1 (p_S (c_P sz sl rb) (c_b (b_1 t d) st) p f).2.2 (lo + p * p / (c_P sz sl rb).2.2.1) (we + (sz 3 + (p_S (c_P sz sl rb) (c_b (b_1 t d) st) p f).1 / 10)))) := by
  obtain ⟨t1, t2, t3, t4, t5, t6⟩ := hT
  have h21 : c 21 = sl := by rw [← t3, h, m_row_o _ _ _ _ _ _ (by omega)]
  have h20 : c 20 = rb := by rw [← t2, h, m_row_o _ _ _ _ _ _ (by omega)]
  have hD : ¬ (8 + 2 * S.1 95 1) - S.1 95 2 = 0 := by
    rw [t1 1 (by omega), t1 2 (by omega)]
    intro q
    have := hok.1
    rw [q] at this
    exact absurd this (by decide)
  have hP : m_P (S.1 95) (c 21) (c 20) (S.1 96) = c_P sz sl rb := by
    rw [a_P_c hok]
    unfold m_P a_P
    rw [t1 0 (by omega), t1 1 (by omega), t1 2 (by omega), t1 3 (by omega), t1 4 (by omega), t1 5 (by omega), h21, h20, t4, t5]
  have hs : ∀ b, fX9_step b S = _ := fun b => q_mstep (x := b) h rfl hf hD
  rw [hP, t1 3 (by omega)] at hs
  have hb : c_b (b_1 t d) st = if nI st = S.1 82 23 then S.1 82 24 else 0 := by
    rw [t6, hd]
    unfold c_b b_1
    by_cases hst2 : st = t
    · rw [if_pos (by omega), if_pos hst2, if_pos (by rw [hst2])]
    · rw [if_neg (fun q => hst2 ((nI_eq (by omega) (by omega)).mp q)), if_neg hst2]
      by_cases h9 : st ≤ 99
      · rw [if_pos h9]
      · rw [if_neg h9]
  rw [hb]
  unfold fX9_steps
  by_cases hq : nI st = S.1 82 23
  · simp only [if_pos hq, dk_lt_eq]
    rw [hs, some_bind']
  · simp only [if_neg hq, dk_lt_eq]
    rw [hs, some_bind']
theorem e_mb62 {sz : Nat → Int32} {rb sl x4 x7 x8 d : Int32} {t : Nat} {c : Nat → Int32} (hok : a_ok sz) (ht : t < 100) (kx : dk_S → Option (Int32 × dk_S)) : ∀ (m k t0 st : Nat) (p f i lo we : Int32) (S : dk_S), st + k = 200 → k < m → m_B sz rb sl t S → S.1 82 24 = d → S.1 82 = m_row c p f i lo we → (f = 0 ∨ f = 1) →
    fX9_bears_L62 x4 x7 x8 kx m (nI st) S = kx (dk_sr S 82 (m_row c (w_go (c_P sz sl rb) (b_1 t d) (sz 3) k t0 st p f i lo we).2.2.1 (w_go (c_P sz sl rb) (b_1 t d) (sz 3) k t0 st p f i lo we).2.2.2.1 (w_go (c_P sz sl rb) (b_1 t d) (sz 3) k t0 st p f i lo we).2.2.2.2.1 (w_go (c_P sz sl rb) (b_1 t d) (sz 3) k t0 st p f i lo we).2.2.2.2.2.1 (w_go (c_P sz sl rb) (b_1 t d) (sz 3) k t0 st p f i lo we).2.2.2.2.2.2)) := by
  intro m
  induction m with
  | zero => intro k t0 st p f i lo we S h1 h2; omega
  | succ m ih =>
    intro k t0 st p f i lo we S h1 h2 hB hd hr hf
    rw [fX9_bears_L62]
    cases k with
    | zero =>
      rw [if_pos (show (200 : Int32) ≤ nI st from (nI_leI (a := 200) (by omega) (by omega)).mpr (by omega))]
      show kx S = kx (dk_sr S 82 (m_row c p f i lo we))
      rw [← hr, dk_sr_id]
    | succ k =>
      rw [if_neg (show ¬ (200 : Int32) ≤ nI st from fun q => by have := (nI_leI (a := 200) (by omega) (by omega)).mp q; omega), hr, m_row_27, w_go]
      by_cases h0 : i = 0
      · subst h0
        rw [if_pos rfl, if_pos rfl, x_mstb hB hok hr hd hf ht (by omega), some_bind', nI_1]
        have hg : ∀ j, j < 25 → (m_row c (p_S (c_P sz sl rb) (c_b (b_1 t d) st) p f).1 (p_S (c_P sz sl rb) (c_b (b_1 t d) st) p f).2.1 (p_S (c_P sz sl rb) (c_b (b_1 t d) st) p f).2.2 (lo + p * p / (c_P sz sl rb).2.2.1) (we + (sz 3 + (p_S (c_P sz sl rb) (c_b (b_1 t d) st) p f).1 / 10))) j = S.1 82 j := fun j hj => by rw [hr, m_row_o _ _ _ _ _ _ (by omega), m_row_o _ _ _ _ _ _ (by omega)]
        rw [ih k (t0 + 1) (st + 1) _ _ _ _ _ _ (by omega) (by omega) (hB.row (fun j hj => hg j (by omega))) (by rw [dk_sr_same, hg 24 (by omega)]; exact hd) (dk_sr_same _ _ _) (p_S_f _ _ _ _ hf), dk_sr_sr]
      · rw [if_neg h0, if_neg h0]
        show kx S = kx (dk_sr S 82 (m_row c p f i lo we))
        rw [← hr, dk_sr_id]
theorem e_mb41 {S0 : dk_S} {sz : Nat → Int32} {rb sl p : Int32} {t : Nat} (hok : a_ok sz) (ht : t < 100) : ∀ (m d : Nat) (x7 : Int32) (S : dk_S), d ≤ 99 → d + 1 < m → m_B sz rb sl t S → m_sm S0 S → ∃ T, fX9_bears_L41 p m x7 (nI d) S = some (if b_E (c_P sz sl rb) (sz 3) t p 0 = true then (if x7 = -9 then nI (b_M (c_P sz sl rb) (sz 3) t p d) else x7) else -9, T) ∧ m_sm S0 T := by
  intro m
  induction m with
  | zero => intro d x7 S h1 h2; omega
  | succ m ih =>
    intro d x7 S h1 h2 hB hsm
    rw [fX9_bears_L41, if_neg (nI_pos (by omega)), dk_lt_eq, q_starts, some_bind']
    obtain ⟨A, hA⟩ : ∃ A, A = dk_sr (dk_si S 82 24 (nI d)) 82 (m_row ((dk_si S 82 24 (nI d)).1 82) p 0 0 0 0) := ⟨_, rfl⟩
    rw [← hA]
    have e82 : (dk_si S 82 24 (nI d)).1 82 = upd (S.1 82) 24 (nI d) := by rw [dk_si_eq, dk_sr_same]
    have a82 : A.1 82 = m_row (upd (S.1 82) 24 (nI d)) p 0 0 0 0 := by rw [hA, dk_sr_same, e82]
    have aA : A = dk_sr S 82 (m_row (upd (S.1 82) 24 (nI d)) p 0 0 0 0) := by rw [hA, e82, dk_si_eq, dk_sr_sr]
    have hg : ∀ j, j < 24 → (m_row (upd (S.1 82) 24 (nI d)) p 0 0 0 0) j = S.1 82 j := fun j hj => by rw [m_row_o _ _ _ _ _ _ (by omega), upd_ne _ _ (by omega)]
    have hB2 : m_B sz rb sl t A := by rw [aA]; exact hB.row hg
    have hsm2 : m_sm S0 A := by rw [aA]; exact hsm.tr (m_sm.row20 (fun j hj => hg j (by omega)))
    have ad : A.1 82 24 = nI d := by rw [a82, m_row_o _ _ _ _ _ _ (by omega), upd_same]
    clear hA aA
    have hl := e_mb62 (x4 := p) (x7 := x7) (x8 := nI d) hok ht (fun t8 : dk_S => dk_lt (fun t9 : dk_S => (dk_lt (if (t9.1 82 27) = 0 then if x7 = (-9) then nI d else x7 else x7) (fun y11 : Int32 => fX9_bears_L41 p m y11 (nI d + (-1)) t9) : Option (Int32 × dk_S))) (fun k10 => if nI d = 0 then if (t8.1 82 27) = 0 then k10 t8 else some ((-9), t8) else k10 t8)) dk_FU 200 0 0 p 0 0 0 0 A (by omega) (by have := dk_FU_ge; omega) hB2 ad a82 (Or.inl rfl)
    rw [nI_0] at hl
    rw [hl]
    have hE : b_E (c_P sz sl rb) (sz 3) t p (nI d) = decide ((w_go (c_P sz sl rb) (b_1 t (nI d)) (sz 3) 200 0 0 p 0 0 0 0).2.2.2.2.1 = 0) := by unfold b_E; rw [b_200_eq]
    generalize w_go (c_P sz sl rb) (b_1 t (nI d)) (sz 3) 200 0 0 p 0 0 0 0 = z at hE
    clear hl
    have hg2 : ∀ j, j < 24 → (m_row (upd (S.1 82) 24 (nI d)) z.2.2.1 z.2.2.2.1 z.2.2.2.2.1 z.2.2.2.2.2.1 z.2.2.2.2.2.2) j = A.1 82 j := fun j hj => by rw [a82, m_row_o _ _ _ _ _ _ (by omega), m_row_o _ _ _ _ _ _ (by omega)]
    obtain ⟨C, hC⟩ : ∃ C, C = dk_sr A 82 (m_row (upd (S.1 82) 24 (nI d)) z.2.2.1 z.2.2.2.1 z.2.2.2.2.1 z.2.2.2.2.2.1 z.2.2.2.2.2.2) := ⟨_, rfl⟩
    rw [← hC]
    have hB3 : m_B sz rb sl t C := by rw [hC]; exact hB2.row hg2
    have hsm3 : m_sm S0 C := by rw [hC]; exact hsm2.tr (m_sm.row20 (fun j hj => hg2 j (by omega)))
    have c27 : C.1 82 27 = z.2.2.2.2.1 := by rw [hC, dk_sr_same, m_row_27]
    clear hC
    simp only [dk_lt_eq, c27]
    cases d with
    | zero =>
      rw [if_pos (show nI 0 = (0 : Int32) from rfl)]
      rw [nI_0] at hE
      by_cases hz : z.2.2.2.2.1 = 0
      · rw [hE, decide_eq_true hz, if_pos hz, if_pos hz, if_pos rfl]
        obtain ⟨m, rfl⟩ : ∃ m', m = m' + 1 := ⟨m - 1, by omega⟩
        rw [fX9_bears_L41, if_pos (by decide)]
        exact ⟨C, rfl, hsm3⟩
      · rw [hE, decide_eq_false hz, if_neg hz, if_neg (show ¬ (false = true) by decide)]
        exact ⟨C, rfl, hsm3⟩
    | succ d =>
      rw [if_neg (nI_ne0 (by omega) (by omega)), show nI (d + 1) + (-1) = nI d by rw [← nI_pred d, Int32.sub_eq_add_neg], b_M]
      obtain ⟨T, t1, t2⟩ := ih d (if z.2.2.2.2.1 = 0 then if x7 = (-9) then nI (d + 1) else x7 else x7) C (by omega) (by omega) hB3 hsm3
      refine ⟨T, ?_, t2⟩
      rw [t1]
      by_cases h00 : b_E (c_P sz sl rb) (sz 3) t p 0 = true
      · rw [if_pos h00, if_pos h00]
        by_cases hz : z.2.2.2.2.1 = 0
        · rw [if_pos hz, if_pos (show b_E (c_P sz sl rb) (sz 3) t p (nI (d + 1)) = true by rw [hE, decide_eq_true hz])]
          by_cases h7 : x7 = -9
          · rw [if_pos h7, if_neg (nI_m9 (by omega))]
          · rw [if_neg h7, if_neg h7]
        · rw [if_neg hz, if_neg (show ¬ b_E (c_P sz sl rb) (sz 3) t p (nI (d + 1)) = true by rw [hE, decide_eq_false hz]; decide)]
      · rw [if_neg h00, if_neg h00]
theorem pr_bears (a1 : Int32) (a2 : Int32) (a3 : Int32) (a4 : Int32) (a5 : Int32) {n : Nat} {S : dk_S} (hn : n < 512) (hI : dk_I n S) : ∃ (r : Int32) (S1 S2 : dk_S), fX8_bears a1 a2 a3 a4 a5 S = some (r, S1) ∧ fX9_bears a1 a2 a3 a4 a5 S1 = some (r, S2) ∧ dk_I (n + 1) S2 := by
  unfold fX8_bears fX9_bears
  simp only [q_isOutside, q_in, some_bind']
  by_cases hg : h_g a1 a2 a3 a4
  · rw [q_nG_t hg, some_bind', if_pos rfl]
    by_cases h4 : 0 ≤ a5 ∧ a5 ≤ 99
    · simp only [if_pos h4, if_true]
      obtain ⟨k, l, t, a, hk, hl, ht, ha, rfl, rfl, rfl, rfl⟩ := h_g_of hg
      obtain ⟨b, hb, rfl⟩ := dI_of (n := 99) (by omega) h4.1 h4.2
      rcases h_two hI hk hl with ⟨S1, sz, rb, e1, e2, e3, e4, e5, -, -, -, e8⟩ | ⟨e1, e2⟩
      · rw [e1, some_bind', if_neg (show ¬ (1 : Int32) = 0 by decide)]
        have hok := a_ok_sz e5
        have hU : c_U sz rb b S1 := ⟨e2.1, e2.2.1, fun j hj _ => e2.2.2 j hj⟩
        obtain ⟨T, t1, t2, t3, t4⟩ := q_bump (d := 0) (sl := nI t) (p := nI a) (by omega) hU
        rw [t1, some_bind']
        have hm : ∀ G : dk_S, (∀ q, 82 < q → G.1 q = S.1 q) → ∃ S2 T2, fX9_need 1 (nI k) (nI l) (nI t) (nI a) G = some (0, S2) ∧ fX9_bears_L41 (nI a) dk_FU (-9) 99 (dk_si S2 82 23 (nI b)) = some (if b_E (c_P sz (nI t) rb) (sz 3) b (nI a) 0 = true then nI (b_M (c_P sz (nI t) rb) (sz 3) b (nI a) 99) else -9, T2) ∧ m_sm G T2 := fun G hG => by
          obtain ⟨S2, g1, g2, g3⟩ := e8 G 1 t a (by decide) ht ha hG
          obtain ⟨s1, s2, s3, s4, s5, s6⟩ := g2
          have hB : m_B sz rb (nI t) b (dk_si S2 82 23 (nI b)) := ⟨fun j hj => by rw [dk_si_eq, dk_sr_ne _ _ (by omega)]; exact s1 j hj, by rw [dk_si_eq, dk_sr_same, upd_ne _ _ (by omega)]; exact s2, by rw [dk_si_eq, dk_sr_same, upd_ne _ _ (by omega)]; exact s3, by rw [dk_si_eq, dk_sr_ne _ _ (by omega)]; exact s4, by rw [dk_si_eq, dk_sr_ne _ _ (by omega)]; exact s5, by rw [dk_si_eq, dk_sr_same, upd_same]⟩
          have hsm : m_sm G (dk_si S2 82 23 (nI b)) := g3.tr (m_sm.row20 (fun j hj => upd_ne _ _ (by omega)))
          obtain ⟨T2, k1, k2⟩ := e_mb41 (S0 := G) (p := nI a) hok (show b < 100 by omega) dk_FU 99 (-9) _ (by omega) (by have := dk_FU_ge; omega) hB hsm
          rw [if_pos (show (-9 : Int32) = -9 from rfl)] at k1
          exact ⟨S2, T2, g1, k1, k2⟩
        cases hbE : b_E (c_P sz (nI t) rb) (sz 3) b (nI a) 0 with
        | false =>
          rw [if_pos k_b_f]
          have hsm := e3.tr t3
          obtain ⟨S2, T2, g1, k1, k2⟩ := hm T (fun q hq => hsm.1 q (by omega))
          rw [hbE, if_neg (show ¬ (false = true) by decide)] at k1
          refine ⟨_, _, _, rfl, ?_, an_none hI hsm ((c_ok.of hI.2.2).c (by rw [t4, e4]) (by rw [t4, e4])) (by omega) k2⟩
          rw [g1, some_bind', if_pos (show (0 : Int32) ≤ 0 by decide), dk_lt_eq, k1]
        | true =>
          rw [if_neg k_b_t]
          obtain ⟨U, u1, u2, u3⟩ := e_cbears (S0 := S) (sl := nI t) (p := nI a) (show b < 100 by omega) dk_FU 99 T (by omega) (by have := dk_FU_ge; omega) t2 (e3.tr t3) (by rw [t4, e4])
          obtain ⟨S2, T2, g1, k1, k2⟩ := hm U (fun q hq => u2.1 q (by omega))
          rw [hbE, if_pos rfl] at k1
          have u1' : fX8_bears_L59 (nI t) (nI a) (nI b) dk_FU 99 T = _ := u1
          refine ⟨_, _, _, u1', ?_, an_none hI u2 ((c_ok.of hI.2.2).c (by rw [u3]) (by rw [u3])) (by omega) k2⟩
          rw [g1, some_bind', if_pos (show (0 : Int32) ≤ 0 by decide), dk_lt_eq, k1]
      · rw [e1, some_bind', if_pos rfl, q_found1, some_bind']
        refine ⟨_, _, _, rfl, ?_, dk_I_fn (f := 1) (by omega) hI⟩
        rw [e2 1 t a (by decide) ht ha, some_bind', if_neg n3neg]
    · simp only [if_neg h4, i_10, if_false]
      refine ⟨_, _, _, rfl, ?_, dk_I_up hI⟩
      rw [q_need_bad (Or.inl rfl), some_bind', if_neg n1neg]
  · rw [q_nG_f hg, some_bind', if_neg (show ¬ (1 : Int32) = 0 by decide)]
    refine ⟨_, _, _, rfl, ?_, dk_I_up hI⟩
    rw [q_need_bad (Or.inr hg), some_bind', if_neg n1neg]
