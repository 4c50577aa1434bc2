/-! the round trip: its least and its greatest pace -/
def p_mn (a b : Int32) : Int32 := if b < a then b else a
def p_mx (a b : Int32) : Int32 := if a < b then b else a
def p_lo (g : Nat → Int32) : Nat → Nat → Int32 → Int32
  | 0, _, v => v
  | c + 1, i, v => p_lo g c (i + 1) (p_mn v (g i))
def p_hi (g : Nat → Int32) : Nat → Nat → Int32 → Int32
  | 0, _, v => v
  | c + 1, i, v => p_hi g c (i + 1) (p_mx v (g i))
theorem p_lo_congr {f g : Nat → Int32} : ∀ (c i : Nat) (v : Int32), (∀ j, i ≤ j → j < i + c → f j = g j) → p_lo f c i v = p_lo g c i v := by
  intro c
  induction c with
  | zero => intro i v h; rfl
  | succ c ih =>
    intro i v h
    unfold p_lo
    rw [h i (by omega) (by omega), ih (i + 1) _ (fun j h1 h2 => h j (by omega) (by omega))]
theorem p_hi_congr {f g : Nat → Int32} : ∀ (c i : Nat) (v : Int32), (∀ j, i ≤ j → j < i + c → f j = g j) → p_hi f c i v = p_hi g c i v := by
  intro c
  induction c with
  | zero => intro i v h; rfl
  | succ c ih =>
    intro i v h
    unfold p_hi
    rw [h i (by omega) (by omega), ih (i + 1) _ (fun j h1 h2 => h j (by omega) (by omega))]
theorem q_min (a b : Int32) (S : dk_S) : fJ9_min_7cf53 a b S = some (p_mn a b, S) := by
  unfold fJ9_min_7cf53 p_mn
  by_cases h : b < a
  · rw [if_pos h, if_pos h]
  · rw [if_neg h, if_neg h]
theorem q_max (a b : Int32) (S : dk_S) : fJ9_max_7cf53 a b S = some (p_mx a b, S) := by
  unfold fJ9_max_7cf53 p_mx
  by_cases h : a < b
  · rw [if_pos h, if_pos h]
  · rw [if_neg h, if_neg h]
theorem q_lesser (a b : Int32) (S : dk_S) : fX9_lesser a b S = some (p_mn a b, S) := by
  unfold fX9_lesser p_mn
  by_cases h : b < a
  · rw [if_pos h, if_pos (by rw [i32_le]; rw [i32_lt] at h; omega)]
  · by_cases h2 : b ≤ a
    · have : b = a := i32_eq.mpr (by rw [i32_lt] at h; rw [i32_le] at h2; omega)
      subst this
      rw [if_pos h2, if_neg h]
    · rw [if_neg h2, if_neg h]
theorem q_greater (a b : Int32) (S : dk_S) : fX9_greater a b S = some (p_mx a b, S) := by
  unfold fX9_greater p_mx
  by_cases h : a < b
  · rw [if_pos h, if_pos (by rw [i32_le]; rw [i32_lt] at h; omega)]
  · by_cases h2 : a ≤ b
    · have : b = a := i32_eq.mpr (by rw [i32_lt] at h; rw [i32_le] at h2; omega)
      subst this
      rw [if_pos h2, if_neg h]
    · rw [if_neg h2, if_neg h]
/-- slots 3 and 4 of the trial -/
def t_row (c : Nat → Int32) (lo hi : Int32) : Nat → Int32 := fun j => if j = 3 then lo else if j = 4 then hi else c j
theorem t_row_3 (c : Nat → Int32) (lo hi : Int32) : t_row c lo hi 3 = lo := rfl
theorem t_row_4 (c : Nat → Int32) (lo hi : Int32) : t_row c lo hi 4 = hi := rfl
theorem t_row_1 (c : Nat → Int32) (lo hi : Int32) : t_row c lo hi 1 = c 1 := rfl
theorem t_row_2 (c : Nat → Int32) (lo hi : Int32) : t_row c lo hi 2 = c 2 := rfl
theorem t_row_u3 (c : Nat → Int32) (lo hi v : Int32) : upd (t_row c lo hi) 3 v = t_row c v hi := by
  funext j; unfold upd t_row; by_cases h : j = 3 <;> simp [h]
theorem t_row_u4 (c : Nat → Int32) (lo hi v : Int32) : upd (t_row c lo hi) 4 v = t_row c lo v := by
  funext j; unfold upd t_row; by_cases h : j = 4 <;> simp [h]
theorem e_close (N : Nat) (hN : N ≤ 400) (kx : dk_S → Option dk_S) : ∀ (m i : Nat) (c : Nat → Int32) (lo hi : Int32) (S : dk_S), S.1 16 = t_row c lo hi → i ≤ N → N - i < m → fX7_closeTrip_L31 (nI N) kx m (nI i) S = kx (dk_sr S 16 (t_row c (p_lo (S.1 22) (N - i) i lo) (p_hi (S.1 22) (N - i) i hi))) := by
  intro m
  induction m with
  | zero => intro i c lo hi S h0 h1 h2; omega
  | succ m ih =>
    intro i c lo hi S h0 h1 h2
    rw [fX7_closeTrip_L31]
    by_cases h : N ≤ i
    · rw [if_pos ((nI_leI (by omega) (by omega)).mpr h), show N - i = 0 by omega]
      show kx S = kx (dk_sr S 16 (t_row c lo hi))
      rw [← h0, dk_sr_id]
    · rw [if_neg (fun q => h ((nI_leI (by omega) (by omega)).mp q)), dI_in (by omega) (by omega), dk_gd_t, nI_clamp (by omega)]
      simp only [q_min, q_max, some_bind', dk_lt_eq, dk_gd_t, dk_si_eq, dk_sr_sr, dk_sr_same, h0, t_row_u3, t_row_u4, t_row_3, t_row_4, dk_sr_ne _ _ (by omega : ¬ 22 = 16), nI_1]
      rw [ih (i + 1) c _ _ _ (dk_sr_same _ _ _) (by omega) (by omega), dk_sr_sr, dk_sr_ne _ _ (by omega : ¬ 22 = 16), show N - i = (N - (i + 1)) + 1 by omega]
      rfl
