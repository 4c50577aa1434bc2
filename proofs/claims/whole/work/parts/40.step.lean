/-! A STEP, as numbers: P = (gain on foot 0, gain on foot 1, damp, rub, limit) -/
abbrev p_P : Type := Int32 × Int32 × Int32 × Int32 × Int32
def p_q (P : p_P) (bm p f : Int32) : Int32 := ((((p + (if f = 0 then P.1 else P.2.1)) - (p * p) / P.2.2.1) - P.2.2.2.1) - bm)
def p_S (P : p_P) (bm p f : Int32) : Int32 × Int32 × Int32 := if 3 ≤ p_q P bm p f then (if p_q P bm p f ≤ P.2.2.2.2 then (p_q P bm p f, 1 - f, 0) else (p_q P bm p f, f, 2)) else (0, f, 1)
/-- the class's numbers of a course: its sizes, slope, rub -/
def c_P (sz : Nat → Int32) (sl rb : Int32) : p_P := ((sl * sz 3) / 10 + sz 4, (sl * sz 3) / 10 + sz 5, if 1 < (8 + 2 * sz 1) - sz 2 then (8 + 2 * sz 1) - sz 2 else 1, rb, 20 + 8 * sz 0)
def c_row (c : Nat → Int32) (p f st i lo we : Int32) : Nat → Int32 := fun j => if j = 4 then p else if j = 5 then f else if j = 6 then st else if j = 7 then i else if j = 8 then lo else if j = 9 then we else c j
def m_row (c : Nat → Int32) (p f i lo we : Int32) : Nat → Int32 := fun j => if j = 25 then p else if j = 26 then f else if j = 27 then i else if j = 28 then lo else if j = 29 then we else c j
theorem q_damp (k : Nat) (S : dk_S) : fX1_damp k S = some (if 1 < (8 + 2 * S.1 (k + 1) 1) - S.1 (k + 1) 2 then (8 + 2 * S.1 (k + 1) 1) - S.1 (k + 1) 2 else 1, S) := by
  unfold fX1_damp fJ9_max_7cf53
  by_cases h : 1 < (8 + 2 * S.1 (k + 1) 1) - S.1 (k + 1) 2
  · rw [if_pos h, if_pos h]; rfl
  · rw [if_neg h, if_neg h]; rfl
theorem q_gain (k : Nat) (x1 x2 : Int32) (S : dk_S) : fX1_gain k x1 x2 S = some (if x2 = 0 then (x1 * S.1 (k + 1) 3) / 10 + S.1 (k + 1) 4 else (x1 * S.1 (k + 1) 3) / 10 + S.1 (k + 1) 5, S) := by
  unfold fX1_gain
  by_cases h : x2 = 0
  · rw [if_pos h, if_pos h]
  · rw [if_neg h, if_neg h]
theorem q_limit (k : Nat) (S : dk_S) : fX1_limit k S = some (20 + 8 * S.1 (k + 1) 0, S) := rfl
/-- what all bumps of a step take -/
def c_b (bs : Nat → Int32) (st : Nat) : Int32 := if st ≤ 99 then bs st else 0
theorem q_bumpsOf (k : Nat) {st : Nat} (h : st < 2 ^ 31) (S : dk_S) : fX3_bumpsOf k (nI st) S = some (c_b (S.1 (k + 1)) st, S) := by
  unfold fX3_bumpsOf c_b
  simp only [q_isOutside, some_bind']
  have h0 : (0 : Int32) ≤ nI st := nI_ge0 h
  by_cases h1 : st ≤ 99
  · have hP : 0 ≤ nI st ∧ nI st ≤ 99 := ⟨h0, (nI_leI (b := 99) h (by omega)).mpr h1⟩
    rw [if_pos h1, dI_in (by omega) (by omega), nI_clamp h]
    simp only [if_pos hP, if_true, dk_gd_t]
  · have hP : ¬ (0 ≤ nI st ∧ nI st ≤ 99) := fun q => h1 ((nI_leI (b := 99) h (by omega)).mp q.2)
    simp only [if_neg hP, if_neg h1, i_10, if_false]
theorem c_row_4 (c : Nat → Int32) (p f st i lo we : Int32) : c_row c p f st i lo we 4 = p := rfl
theorem c_row_5 (c : Nat → Int32) (p f st i lo we : Int32) : c_row c p f st i lo we 5 = f := rfl
theorem c_row_6 (c : Nat → Int32) (p f st i lo we : Int32) : c_row c p f st i lo we 6 = st := rfl
theorem c_row_7 (c : Nat → Int32) (p f st i lo we : Int32) : c_row c p f st i lo we 7 = i := rfl
theorem c_row_8 (c : Nat → Int32) (p f st i lo we : Int32) : c_row c p f st i lo we 8 = lo := rfl
theorem c_row_9 (c : Nat → Int32) (p f st i lo we : Int32) : c_row c p f st i lo we 9 = we := rfl
theorem c_row_3 (c : Nat → Int32) (p f st i lo we : Int32) : c_row c p f st i lo we 3 = c 3 := rfl
theorem c_row_2 (c : Nat → Int32) (p f st i lo we : Int32) : c_row c p f st i lo we 2 = c 2 := rfl
theorem c_row_u4 (c : Nat → Int32) (p f st i lo we v : Int32) : upd (c_row c p f st i lo we) 4 v = c_row c v f st i lo we := by
  funext j; unfold upd c_row; by_cases h : j = 4 <;> simp [h]
theorem c_row_u5 (c : Nat → Int32) (p f st i lo we v : Int32) : upd (c_row c p f st i lo we) 5 v = c_row c p v st i lo we := by
  funext j; unfold upd c_row; by_cases h : j = 5 <;> simp [h]
theorem c_row_u6 (c : Nat → Int32) (p f st i lo we v : Int32) : upd (c_row c p f st i lo we) 6 v = c_row c p f v i lo we := by
  funext j; unfold upd c_row; by_cases h : j = 6 <;> simp [h]
theorem c_row_u7 (c : Nat → Int32) (p f st i lo we v : Int32) : upd (c_row c p f st i lo we) 7 v = c_row c p f st v lo we := by
  funext j; unfold upd c_row; by_cases h : j = 7 <;> simp [h]
theorem c_row_u8 (c : Nat → Int32) (p f st i lo we v : Int32) : upd (c_row c p f st i lo we) 8 v = c_row c p f st i v we := by
  funext j; unfold upd c_row; by_cases h : j = 8 <;> simp [h]
theorem c_row_u9 (c : Nat → Int32) (p f st i lo we v : Int32) : upd (c_row c p f st i lo we) 9 v = c_row c p f st i lo v := by
  funext j; unfold upd c_row; by_cases h : j = 9 <;> simp [h]
/-- a stride of a course that goes -/
theorem q_stride {S : dk_S} {k st : Nat} {c : Nat → Int32} {p f lo we : Int32} (h : S.1 k = c_row c p f (nI st) 0 lo we) (hst : st < 2 ^ 31) :
    fX0_stride k S = some (1, dk_sr S k (c_row c (p_S (c_P (S.1 (k + 2)) (c 3) (S.1 (k + 3) 1)) (c_b (S.1 (k + 4)) st) p f).1 (p_S (c_P (S.1 (k + 2)) (c 3) (S.1 (k + 3) 1)) (c_b (S.1 (k + 4)) st) p f).2.1 (nI (st + 1)) (p_S (c_P (S.1 (k + 2)) (c 3) (S.1 (k + 3) 1)) (c_b (S.1 (k + 4)) st) p f).2.2 (lo + p * p / (c_P (S.1 (k + 2)) (c 3) (S.1 (k + 3) 1)).2.2.1) (we + (S.1 (k + 2) 3 + (p_S (c_P (S.1 (k + 2)) (c 3) (S.1 (k + 3) 1)) (c_b (S.1 (k + 4)) st) p f).1 / 10)))) := by
  unfold fX0_stride
  have e2 : k + 1 + 1 = k + 2 := rfl
  have e4 : k + 3 + 1 = k + 4 := rfl
  rw [h, c_row_7, if_pos rfl, q_damp, some_bind']
  simp only [e2, h, c_row_4, c_row_3, c_row_5, c_row_6]
  have hD : ¬ (if 1 < (8 + 2 * S.1 (k + 2) 1) - S.1 (k + 2) 2 then (8 + 2 * S.1 (k + 2) 1) - S.1 (k + 2) 2 else 1) = 0 := by
    by_cases h1 : 1 < (8 + 2 * S.1 (k + 2) 1) - S.1 (k + 2) 2
    · rw [if_pos h1]; intro h2; rw [h2] at h1; exact absurd h1 (by decide)
    · rw [if_neg h1]; decide
  rw [decide_eq_true hD, dk_gd_t]
  simp only [dk_lt_eq, q_gain, some_bind', e2, h, c_row_6, q_bumpsOf _ hst, e4, q_limit]
  have hq : p_q (c_P (S.1 (k + 2)) (c 3) (S.1 (k + 3) 1)) (c_b (S.1 (k + 4)) st) p f = ((((p + (if f = 0 then (c 3 * S.1 (k + 2) 3) / 10 + S.1 (k + 2) 4 else (c 3 * S.1 (k + 2) 3) / 10 + S.1 (k + 2) 5)) - (p * p) / (if 1 < (8 + 2 * S.1 (k + 2) 1) - S.1 (k + 2) 2 then (8 + 2 * S.1 (k + 2) 1) - S.1 (k + 2) 2 else 1)) - S.1 (k + 3) 1) - c_b (S.1 (k + 4)) st) := rfl
  rw [← hq]
  unfold p_S
  generalize hqq : p_q (c_P (S.1 (k + 2)) (c 3) (S.1 (k + 3) 1)) (c_b (S.1 (k + 4)) st) p f = q
  have hlim : (c_P (S.1 (k + 2)) (c 3) (S.1 (k + 3) 1)).2.2.2.2 = 20 + 8 * S.1 (k + 2) 0 := rfl
  have hdd : (c_P (S.1 (k + 2)) (c 3) (S.1 (k + 3) 1)).2.2.1 = (if 1 < (8 + 2 * S.1 (k + 2) 1) - S.1 (k + 2) 2 then (8 + 2 * S.1 (k + 2) 1) - S.1 (k + 2) 2 else 1) := rfl
  rw [hlim, hdd]
  have hk2 : ¬ k + 2 = k := by omega
  by_cases h3 : 3 ≤ q
  · rw [if_pos h3, if_pos h3]
    by_cases h4 : q ≤ 20 + 8 * S.1 (k + 2) 0
    · rw [if_pos h4, if_pos h4]
      simp only [dk_si_eq, dk_sr_sr, dk_sr_same, dk_sr_ne _ _ hk2, h, c_row_u4, c_row_u5, c_row_u6, c_row_u7, c_row_u8, c_row_u9, c_row_4, c_row_5, c_row_6, c_row_8, c_row_9, nI_1]
    · rw [if_neg h4, if_neg h4]
      simp only [dk_si_eq, dk_sr_sr, dk_sr_same, dk_sr_ne _ _ hk2, h, c_row_u4, c_row_u5, c_row_u6, c_row_u7, c_row_u8, c_row_u9, c_row_4, c_row_5, c_row_6, c_row_8, c_row_9, nI_1]
  · rw [if_neg h3, if_neg h3]
    simp only [dk_si_eq, dk_sr_sr, dk_sr_same, dk_sr_ne _ _ hk2, h, c_row_u4, c_row_u5, c_row_u6, c_row_u7, c_row_u8, c_row_u9, c_row_4, c_row_5, c_row_6, c_row_8, c_row_9, nI_1]
theorem q_stride0 {S : dk_S} {k : Nat} (h : ¬ S.1 k 7 = 0) : fX0_stride k S = some (0, S) := by
  unfold fX0_stride
  rw [if_neg h]
theorem q_begin (k : Nat) (x1 x2 x3 : Int32) (S : dk_S) : fX0_begin k x1 x2 x3 S = some (dk_sr S k (c_row (upd (S.1 k) 3 x1) x2 x3 (nI 0) 0 0 0)) := by
  unfold fX0_begin
  simp only [dk_lt_eq, dk_si_eq, dk_sr_sr, dk_sr_same]
  congr 2
  funext j
  unfold c_row upd
  by_cases h3 : j = 3
  · subst h3; rfl
  by_cases h4 : j = 4
  · subst h4; rfl
  by_cases h5 : j = 5
  · subst h5; rfl
  by_cases h6 : j = 6
  · subst h6; rfl
  by_cases h7 : j = 7
  · subst h7; rfl
  by_cases h8 : j = 8
  · subst h8; rfl
  by_cases h9 : j = 9
  · subst h9; rfl
  simp [h3, h4, h5, h6, h7, h8, h9]
/-- the model's numbers -/
def m_P (sz : Nat → Int32) (sl rb : Int32) (pu : Nat → Int32) : p_P := (((sl * sz 3) / 10 + sz 4) + pu 0, ((sl * sz 3) / 10 + sz 5) + pu 1, (8 + 2 * sz 1) - sz 2, rb, 20 + 8 * sz 0)
theorem m_row_25 (c : Nat → Int32) (p f i lo we : Int32) : m_row c p f i lo we 25 = p := rfl
theorem m_row_26 (c : Nat → Int32) (p f i lo we : Int32) : m_row c p f i lo we 26 = f := rfl
theorem m_row_27 (c : Nat → Int32) (p f i lo we : Int32) : m_row c p f i lo we 27 = i := rfl
theorem m_row_28 (c : Nat → Int32) (p f i lo we : Int32) : m_row c p f i lo we 28 = lo := rfl
theorem m_row_29 (c : Nat → Int32) (p f i lo we : Int32) : m_row c p f i lo we 29 = we := rfl
theorem m_row_o (c : Nat → Int32) (p f i lo we : Int32) {j : Nat} (h : j < 25 ∨ 29 < j) : m_row c p f i lo we j = c j := by
  unfold m_row
  rw [if_neg (by omega), if_neg (by omega), if_neg (by omega), if_neg (by omega), if_neg (by omega)]
theorem m_row_u25 (c : Nat → Int32) (p f i lo we v : Int32) : upd (m_row c p f i lo we) 25 v = m_row c v f i lo we := by
  funext j; unfold upd m_row; by_cases h : j = 25 <;> simp [h]
theorem m_row_u26 (c : Nat → Int32) (p f i lo we v : Int32) : upd (m_row c p f i lo we) 26 v = m_row c p v i lo we := by
  funext j; unfold upd m_row; by_cases h : j = 26 <;> simp [h]
theorem m_row_u27 (c : Nat → Int32) (p f i lo we v : Int32) : upd (m_row c p f i lo we) 27 v = m_row c p f v lo we := by
  funext j; unfold upd m_row; by_cases h : j = 27 <;> simp [h]
theorem m_row_u28 (c : Nat → Int32) (p f i lo we v : Int32) : upd (m_row c p f i lo we) 28 v = m_row c p f i v we := by
  funext j; unfold upd m_row; by_cases h : j = 28 <;> simp [h]
theorem m_row_u29 (c : Nat → Int32) (p f i lo we v : Int32) : upd (m_row c p f i lo we) 29 v = m_row c p f i lo v := by
  funext j; unfold upd m_row; by_cases h : j = 29 <;> simp [h]
theorem q_mgain {S : dk_S} (hf : S.1 82 26 = 0 ∨ S.1 82 26 = 1) : fX9_gain S = some (if S.1 82 26 = 0 then ((S.1 82 21 * S.1 95 3) / 10 + S.1 95 4) + S.1 96 0 else ((S.1 82 21 * S.1 95 3) / 10 + S.1 95 5) + S.1 96 1, S) := by
  unfold fX9_gain
  rcases hf with hf | hf
  · rw [hf]; rfl
  · rw [hf]; rfl
/-- a step of the model -/
theorem q_mstep {S : dk_S} {c : Nat → Int32} {p f i lo we x : Int32} (h : S.1 82 = m_row c p f i lo we) (hi : i = 0) (hf : f = 0 ∨ f = 1) (hD : ¬ (8 + 2 * S.1 95 1) - S.1 95 2 = 0) :
    fX9_step x S = some (dk_sr S 82 (m_row c (p_S (m_P (S.1 95) (c 21) (c 20) (S.1 96)) x p f).1 (p_S (m_P (S.1 95) (c 21) (c 20) (S.1 96)) x p f).2.1 (p_S (m_P (S.1 95) (c 21) (c 20) (S.1 96)) x p f).2.2 (lo + p * p / (m_P (S.1 95) (c 21) (c 20) (S.1 96)).2.2.1) (we + (S.1 95 3 + (p_S (m_P (S.1 95) (c 21) (c 20) (S.1 96)) x p f).1 / 10)))) := by
  subst hi
  unfold fX9_step
  rw [decide_eq_true hD, dk_gd_t, q_mgain (by rw [h]; exact hf)]
  simp only [dk_lt_eq, some_bind', h, m_row_25, m_row_26, m_row_28, m_row_o c p f 0 lo we (by omega : 20 < 25 ∨ 29 < 20), m_row_o c p f 0 lo we (by omega : 21 < 25 ∨ 29 < 21)]
  have hq : p_q (m_P (S.1 95) (c 21) (c 20) (S.1 96)) x p f = ((((p + (if f = 0 then ((c 21 * S.1 95 3) / 10 + S.1 95 4) + S.1 96 0 else ((c 21 * S.1 95 3) / 10 + S.1 95 5) + S.1 96 1)) - (p * p) / ((8 + 2 * S.1 95 1) - S.1 95 2)) - c 20) - x) := rfl
  rw [← hq]
  unfold p_S fX9_fallsAt
  generalize hqq : p_q (m_P (S.1 95) (c 21) (c 20) (S.1 96)) x p f = q
  have hlim : (m_P (S.1 95) (c 21) (c 20) (S.1 96)).2.2.2.2 = 20 + 8 * S.1 95 0 := rfl
  have hdd : (m_P (S.1 95) (c 21) (c 20) (S.1 96)).2.2.1 = (8 + 2 * S.1 95 1) - S.1 95 2 := rfl
  rw [hlim, hdd]
  have hk : ¬ 95 = 82 := by omega
  by_cases h3 : 3 ≤ q
  · rw [if_pos h3, if_pos h3]
    simp only [some_bind', dk_si_eq, dk_sr_sr, dk_sr_same, dk_sr_ne _ _ hk, h, m_row_u25, m_row_u26, m_row_u27, m_row_u28, m_row_u29, m_row_25, m_row_26, m_row_28, m_row_29]
    by_cases h4 : q ≤ 20 + 8 * S.1 95 0
    · rw [if_pos h4, if_pos h4]
    · rw [if_neg h4, if_neg h4]
  · rw [if_neg h3, if_neg h3]
    simp only [dk_si_eq, dk_sr_sr, dk_sr_same, dk_sr_ne _ _ hk, h, m_row_u25, m_row_u26, m_row_u27, m_row_u28, m_row_u29, m_row_25, m_row_26, m_row_28, m_row_29]
theorem q_starts (x1 x2 : Int32) (S : dk_S) : fX9_starts x1 x2 S = some (dk_sr S 82 (m_row (S.1 82) x1 x2 0 0 0)) := by
  unfold fX9_starts
  simp only [dk_lt_eq, dk_si_eq, dk_sr_sr, dk_sr_same]
  congr 2
  funext j
  unfold m_row upd
  by_cases h5 : j = 25
  · subst h5; rfl
  by_cases h6 : j = 26
  · subst h6; rfl
  by_cases h7 : j = 27
  · subst h7; rfl
  by_cases h8 : j = 28
  · subst h8; rfl
  by_cases h9 : j = 29
  · subst h9; rfl
  simp [h5, h6, h7, h8, h9]
