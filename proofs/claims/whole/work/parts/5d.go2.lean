/-! go, in the model -/
theorem x_mstep {S : dk_S} {sz : Nat → Int32} {rb sl p f lo we : Int32} {c : Nat → Int32} (b : Int32) (hT : m_T sz rb sl 0 0 S) (hok : a_ok sz) (h : S.1 82 = m_row c p f 0 lo we) (hf : f = 0 ∨ f = 1) :
    fX9_step b S = some (dk_sr S 82 (m_row c (p_S (c_P sz sl rb) b p f).1 (p_S (c_P sz sl rb) b p f).2.1 (p_S (c_P sz sl rb) b p f).2.2 (lo + p * p / (c_P sz sl rb).2.2.1) (we + (sz 3 + (p_S (c_P sz sl rb) b p f).1 / 10)))) := by
  obtain ⟨t1, t2, t3, t4, t5, t6⟩ := hT
  have h21 : c 21 = sl := by rw [← t3, h, m_row_o _ _ _ _ _ _ (by omega)]
  have h20 : c 20 = rb := by rw [← t2, h, m_row_o _ _ _ _ _ _ (by omega)]
  have hD : ¬ (8 + 2 * S.1 95 1) - S.1 95 2 = 0 := by
    rw [t1 1 (by omega), t1 2 (by omega)]
    intro q
    have := hok.1
    rw [q] at this
    exact absurd this (by decide)
  have hP : m_P (S.1 95) (c 21) (c 20) (S.1 96) = c_P sz sl rb := by
    rw [a_P_c hok]
    unfold m_P a_P
    rw [t1 0 (by omega), t1 1 (by omega), t1 2 (by omega), t1 3 (by omega), t1 4 (by omega), t1 5 (by omega), h21, h20, t4, t5]
  have hs := q_mstep (x := b) h rfl hf hD
  rw [hP, t1 3 (by omega)] at hs
  exact hs
/-- the model's state on the way: what is laid out, and steps -/
def g_M (S : dk_S) (c : Nat → Int32) (p f i lo we : Int32) (st : Nat) : dk_S := dk_sr (dk_sr S 82 (m_row c p f i lo we)) 98 (upd (S.1 98) 9 (nI st))
theorem g_M_82 (S : dk_S) (c : Nat → Int32) (p f i lo we : Int32) (st : Nat) : (g_M S c p f i lo we st).1 82 = m_row c p f i lo we := by unfold g_M; rw [dk_sr_ne _ _ (by omega), dk_sr_same]
theorem g_M_98 (S : dk_S) (c : Nat → Int32) (p f i lo we : Int32) (st : Nat) : (g_M S c p f i lo we st).1 98 = upd (S.1 98) 9 (nI st) := by unfold g_M; rw [dk_sr_same]
theorem g_M_o (S : dk_S) (c : Nat → Int32) (p f i lo we : Int32) (st : Nat) {q : Nat} (h1 : ¬ q = 82) (h2 : ¬ q = 98) : (g_M S c p f i lo we st).1 q = S.1 q := by unfold g_M; rw [dk_sr_ne _ _ h2, dk_sr_ne _ _ h1]
theorem g_M_s (S : dk_S) (c : Nat → Int32) (p f i lo we p' f' i' lo' we' : Int32) (st st' : Nat) : dk_sr (dk_sr (g_M S c p f i lo we st) 82 (m_row c p' f' i' lo' we')) 98 (upd (upd (S.1 98) 9 (nI st)) 9 (nI st')) = g_M S c p' f' i' lo' we' st' := by
  have hu : upd (upd (S.1 98) 9 (nI st)) 9 (nI st') = upd (S.1 98) 9 (nI st') := by
    funext j
    simp only [upd_at]
    by_cases h : j = 9
    · rw [if_pos h, if_pos h]
    · rw [if_neg h, if_neg h, if_neg h]
  rw [hu]
  unfold g_M
  refine Prod.ext ?_ rfl
  funext q
  by_cases h8 : q = 98
  · subst h8; rw [dk_sr_same, dk_sr_same]
  · rw [dk_sr_ne _ _ h8, dk_sr_ne _ _ h8]
    by_cases h2 : q = 82
    · subst h2; rw [dk_sr_same, dk_sr_same]
    · rw [dk_sr_ne _ _ h2, dk_sr_ne _ _ h8, dk_sr_ne _ _ h2, dk_sr_ne _ _ h2]
theorem g_M_T {S : dk_S} {sz : Nat → Int32} {rb sl p f i lo we : Int32} {c : Nat → Int32} {st : Nat} (hT : m_T sz rb sl 0 0 S) (hc : ∀ j, j < 25 → c j = S.1 82 j) : m_T sz rb sl 0 0 (g_M S c p f i lo we st) := by
  obtain ⟨t1, t2, t3, t4, t5, t6⟩ := hT
  refine ⟨fun j hj => ?_, ?_, ?_, ?_, ?_, ?_⟩
  · rw [g_M_o _ _ _ _ _ _ _ _ (by omega) (by omega)]; exact t1 j hj
  · rw [g_M_82, m_row_o _ _ _ _ _ _ (by omega), hc 20 (by omega)]; exact t2
  · rw [g_M_82, m_row_o _ _ _ _ _ _ (by omega), hc 21 (by omega)]; exact t3
  · rw [g_M_o _ _ _ _ _ _ _ _ (by omega) (by omega)]; exact t4
  · rw [g_M_o _ _ _ _ _ _ _ _ (by omega) (by omega)]; exact t5
  · rw [g_M_82, m_row_o _ _ _ _ _ _ (by omega), hc 23 (by omega)]; exact t6
theorem q_walksOn {S : dk_S} {sz : Nat → Int32} {rb sl p f lo we : Int32} {c bs : Nat → Int32} {st : Nat} (hT : m_T sz rb sl 0 0 S) (hok : a_ok sz) (hc : ∀ j, j < 25 → c j = S.1 82 j) (hf : f = 0 ∨ f = 1) (hst : st < 2 ^ 30) (hb : ∀ j, j < 100 → S.1 98 (14 + j) = bs j) :
    fX9_walksOn (g_M S c p f 0 lo we st) = some (1, g_M S c (p_S (c_P sz sl rb) (c_b bs st) p f).1 (p_S (c_P sz sl rb) (c_b bs st) p f).2.1 (p_S (c_P sz sl rb) (c_b bs st) p f).2.2 (lo + p * p / (c_P sz sl rb).2.2.1) (we + (sz 3 + (p_S (c_P sz sl rb) (c_b bs st) p f).1 / 10)) (st + 1)) := by
  have hfin : ∀ b, ((fX9_step b (g_M S c p f 0 lo we st)).bind fun r5 => dk_lt (dk_si r5 98 9 (r5.1 98 9 + 1)) fun S6 => some ((1 : Int32), S6)) = some (1, g_M S c (p_S (c_P sz sl rb) b p f).1 (p_S (c_P sz sl rb) b p f).2.1 (p_S (c_P sz sl rb) b p f).2.2 (lo + p * p / (c_P sz sl rb).2.2.1) (we + (sz 3 + (p_S (c_P sz sl rb) b p f).1 / 10)) (st + 1)) := fun b => by
    rw [x_mstep b (g_M_T hT hc) hok (g_M_82 _ _ _ _ _ _ _ _) hf, some_bind', dk_lt_eq, dk_si_eq, dk_sr_ne _ _ (by omega : ¬ 98 = 82), g_M_98, upd_same, nI_1, g_M_s]
  unfold fX9_walksOn
  rw [g_M_82, m_row_27, if_pos rfl, dk_lt_eq, dk_lt_eq, g_M_98, upd_same]
  by_cases h9 : st ≤ 99
  · have e14 : (14 : Int32) + nI st = nI (14 + st) := by rw [show (14 : Int32) = nI 14 from rfl, nI_add]
    rw [if_neg (show ¬ (99 : Int32) < nI st from fun g => by have := (nI_ltI (a := 99) (by omega) (by omega)).mp g; omega), e14, dI_in (by omega) (by omega), dk_gd_t, nI_clamp (by omega), upd_ne _ _ (by omega), hb st (by omega)]
    rw [show c_b bs st = bs st from if_pos h9]
    exact hfin _
  · rw [if_pos (show (99 : Int32) < nI st from (nI_ltI (a := 99) (by omega) (by omega)).mpr (by omega))]
    rw [show c_b bs st = 0 from if_neg h9]
    exact hfin _
theorem e_mgo2 {S : dk_S} {sz : Nat → Int32} {rb sl : Int32} {c bs : Nat → Int32} (hT : m_T sz rb sl 0 0 S) (hok : a_ok sz) (hc : ∀ j, j < 25 → c j = S.1 82 j) (hb : ∀ j, j < 100 → S.1 98 (14 + j) = bs j) : ∀ (m k t st : Nat) (p f i lo we : Int32), k < m → t + k < 2 ^ 30 → st + k < 2 ^ 30 → (f = 0 ∨ f = 1) →
    fX9_go_L49 (nI (t + k)) m (nI t) (g_M S c p f i lo we st) = (fX9_storeWalk (g_M S c (w_go (c_P sz sl rb) bs (sz 3) k t st p f i lo we).2.2.1 (w_go (c_P sz sl rb) bs (sz 3) k t st p f i lo we).2.2.2.1 (w_go (c_P sz sl rb) bs (sz 3) k t st p f i lo we).2.2.2.2.1 (w_go (c_P sz sl rb) bs (sz 3) k t st p f i lo we).2.2.2.2.2.1 (w_go (c_P sz sl rb) bs (sz 3) k t st p f i lo we).2.2.2.2.2.2 (w_go (c_P sz sl rb) bs (sz 3) k t st p f i lo we).2.1)).bind (fun r => some (nI (w_go (c_P sz sl rb) bs (sz 3) k t st p f i lo we).1, r)) := by
  intro m
  induction m with
  | zero => intro k t st p f i lo we h1; omega
  | succ m ih =>
    intro k t st p f i lo we h1 h2 h3 hf
    rw [fX9_go_L49]
    cases k with
    | zero =>
      rw [if_pos (show nI (t + 0) ≤ nI t from Int32.le_refl _)]
      rfl
    | succ k =>
      rw [if_neg (show ¬ nI (t + (k + 1)) ≤ nI t from fun g => by have := (nI_leI (by omega) (by omega)).mp g; omega), w_go]
      by_cases h0 : i = 0
      · subst h0
        rw [if_pos rfl, q_walksOn hT hok hc hf (by omega) hb, some_bind', if_neg (show ¬ (1 : Int32) = 0 by decide), nI_1, show t + (k + 1) = t + 1 + k by omega]
        exact ih k (t + 1) (st + 1) _ _ _ _ _ (by omega) (by omega) (by omega) (p_S_f _ _ _ _ hf)
      · have hw : fX9_walksOn (g_M S c p f i lo we st) = some (0, g_M S c p f i lo we st) := by
          unfold fX9_walksOn
          rw [g_M_82, m_row_27, if_neg h0]
        rw [if_neg h0, hw, some_bind', if_pos rfl]
