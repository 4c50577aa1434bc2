/-! how many bits -/
def b_8 (c : Nat) : Nat := ((c - ((c / 2) &&& 85)) &&& 51) + (((c - ((c / 2) &&& 85)) / 4) &&& 51)
def b_p (c : Nat) : Nat := (b_8 c + b_8 c / 16) % 16
def b_mk (m : Nat) : Nat → Nat
  | 0 => 0
  | n + 1 => m + 256 * b_mk m n
def b_P : Nat → Nat → Nat
  | 0, _ => 0
  | n + 1, x => b_p (x % 256) + b_P n (x / 256)
theorem and_split {a m b n : Nat} (ha : a < 256) (hm : m < 256) : (a + 256 * b) &&& (m + 256 * n) = (a &&& m) + 256 * (b &&& n) := by
  have h1 : ∀ x y : Nat, x < 256 → x + 256 * y = y <<< 8 ||| x := fun x y hx => by
    rw [Nat.add_comm, Nat.mul_comm, ← Nat.shiftLeft_add_eq_or_of_lt (by simpa using hx), Nat.shiftLeft_eq]
  rw [h1 a b ha, h1 m n hm, h1 (a &&& m) (b &&& n) (Nat.lt_of_le_of_lt Nat.and_le_left ha)]
  apply Nat.eq_of_testBit_eq
  intro i
  simp only [Nat.testBit_and, Nat.testBit_or, Nat.testBit_shiftLeft]
  by_cases hi : 8 ≤ i
  · have ea : a.testBit i = false := Nat.testBit_lt_two_pow (Nat.lt_of_lt_of_le ha (by
      have := Nat.pow_le_pow_right (show 0 < 2 by omega) hi
      omega))
    have em : m.testBit i = false := Nat.testBit_lt_two_pow (Nat.lt_of_lt_of_le hm (by
      have := Nat.pow_le_pow_right (show 0 < 2 by omega) hi
      omega))
    simp [hi, ea, em]
  · simp [hi]
theorem tab_b1 : ∀ c : Fin 256, ((c.1 / 2) &&& 85) ≤ c.1 ∧ ((c.1 / 2 + 128) &&& 85) = ((c.1 / 2) &&& 85) ∧ b_8 c.1 % 16 ≤ 4 ∧ b_8 c.1 / 16 ≤ 4 ∧ b_p c.1 ≤ 8 := by decide +kernel
theorem tab_b2 : ∀ c : Fin 256, ∀ r : Fin 4, ((c.1 / 4 + 64 * r.1) &&& 51) = ((c.1 / 4) &&& 51) := by decide +kernel
/-- the first three stages, over n bytes -/
def s_1 (n x : Nat) : Nat := x - ((x / 2) &&& b_mk 85 n)
def s_2 (n x : Nat) : Nat := (s_1 n x &&& b_mk 51 n) + ((s_1 n x / 4) &&& b_mk 51 n)
def s_3 (n x : Nat) : Nat := (s_2 n x + s_2 n x / 16) &&& b_mk 15 n
theorem s_1_split (n : Nat) {c r : Nat} (hc : c < 256) (hr : ((r / 2) &&& b_mk 85 n) ≤ r) : s_1 (n + 1) (c + 256 * r) = (c - ((c / 2) &&& 85)) + 256 * s_1 n r ∧ (((c + 256 * r) / 2) &&& b_mk 85 (n + 1)) ≤ c + 256 * r := by
  obtain ⟨t1, t2, -⟩ := tab_b1 ⟨c, hc⟩
  dsimp only at t1 t2
  have h1 : ((c + 256 * r) / 2) &&& b_mk 85 (n + 1) = ((c / 2) &&& 85) + 256 * ((r / 2) &&& b_mk 85 n) := by
    rw [b_mk]
    by_cases hr2 : r % 2 = 0
    · rw [show (c + 256 * r) / 2 = c / 2 + 256 * (r / 2) by omega, and_split (by omega) (by omega)]
    · rw [show (c + 256 * r) / 2 = (c / 2 + 128) + 256 * (r / 2) by omega, and_split (by omega) (by omega), t2]
  unfold s_1
  rw [h1]
  exact ⟨by omega, by omega⟩
theorem s_2_split (n : Nat) {c r : Nat} (hc : c < 256) (hr : ((r / 2) &&& b_mk 85 n) ≤ r) : s_2 (n + 1) (c + 256 * r) = b_8 c + 256 * s_2 n r := by
  have hc1 : c - ((c / 2) &&& 85) < 256 := by omega
  unfold s_2
  rw [(s_1_split n hc hr).1]
  unfold b_8
  generalize c - ((c / 2) &&& 85) = d at hc1
  generalize s_1 n r = q
  have t3 := tab_b2 ⟨d, hc1⟩ ⟨q % 4, Nat.mod_lt _ (by omega)⟩
  dsimp only at t3
  rw [b_mk, and_split hc1 (by omega), show (d + 256 * q) / 4 = (d / 4 + 64 * (q % 4)) + 256 * (q / 4) by omega, and_split (by omega) (by omega), t3]
  omega
theorem s_3_split (n : Nat) {c r : Nat} (hc : c < 256) (hr : ((r / 2) &&& b_mk 85 n) ≤ r) (h4 : s_2 n r % 16 ≤ 4) : s_3 (n + 1) (c + 256 * r) = b_p c + 256 * s_3 n r := by
  obtain ⟨-, -, t3, t4, -⟩ := tab_b1 ⟨c, hc⟩
  dsimp only at t3 t4
  unfold s_3 b_p
  rw [s_2_split n hc hr, b_mk]
  generalize b_8 c = d at t3 t4
  generalize s_2 n r = q at h4
  rw [show (d + 256 * q) + (d + 256 * q) / 16 = (d + d / 16 + 16 * (q % 16)) + 256 * (q + q / 16) by omega, and_split (by omega) (by omega), show (15 : Nat) = 2 ^ 4 - 1 by decide, Nat.and_two_pow_sub_one_eq_mod]
  omega
theorem s_2_4 (n : Nat) (x : Nat) (hx : ((x / 256 / 2) &&& b_mk 85 n) ≤ x / 256) : s_2 (n + 1) x % 16 ≤ 4 := by
  have hc : x % 256 < 256 := Nat.mod_lt _ (by omega)
  obtain ⟨-, -, t3, -⟩ := tab_b1 ⟨x % 256, hc⟩
  dsimp only at t3
  have := s_2_split n hc hx
  rw [show x % 256 + 256 * (x / 256) = x by omega] at this
  rw [this]
  omega
theorem and_half (n : Nat) : ∀ x : Nat, ((x / 2) &&& b_mk 85 n) ≤ x := by
  intro x
  have := Nat.and_le_left (n := x / 2) (m := b_mk 85 n)
  omega
theorem s_2_0 (x : Nat) : s_2 0 x = 0 := by unfold s_2 b_mk; rw [Nat.and_zero, Nat.and_zero]
theorem s_2_le : ∀ (n x : Nat), s_2 n x % 16 ≤ 4 := by
  intro n x
  cases n with
  | zero => rw [s_2_0]; omega
  | succ n => exact s_2_4 n x (and_half n _)
theorem s_3_step (n x : Nat) : s_3 (n + 1) x = b_p (x % 256) + 256 * s_3 n (x / 256) := by
  have := s_3_split n (c := x % 256) (r := x / 256) (Nat.mod_lt _ (by omega)) (and_half n _) (s_2_le n _)
  rw [show x % 256 + 256 * (x / 256) = x by omega] at this
  exact this
theorem s_3_0 (x : Nat) : s_3 0 x = 0 := by unfold s_3 b_mk; rw [Nat.and_zero]
theorem b_p_le (c : Nat) (h : c < 256) : b_p c ≤ 8 := (tab_b1 ⟨c, h⟩).2.2.2.2
/-- the last stages -/
def s_6 (y : Nat) : Nat := ((y + y / 256) + (y + y / 256) / 65536) + ((y + y / 256) + (y + y / 256) / 65536) / 4294967296
theorem s_6_ok (x : Nat) : s_6 (s_3 8 x) % 4294967296 % 128 = b_P 8 x ∧ b_P 8 x ≤ 64 ∧ s_3 8 x < 2 ^ 60 := by
  have hb : ∀ y : Nat, b_p (y % 256) ≤ 8 := fun y => b_p_le _ (Nat.mod_lt _ (by omega))
  simp only [s_3_step, s_3_0, b_P]
  have g0 := hb x
  have g1 := hb (x / 256)
  have g2 := hb (x / 256 / 256)
  have g3 := hb (x / 256 / 256 / 256)
  have g4 := hb (x / 256 / 256 / 256 / 256)
  have g5 := hb (x / 256 / 256 / 256 / 256 / 256)
  have g6 := hb (x / 256 / 256 / 256 / 256 / 256 / 256)
  have g7 := hb (x / 256 / 256 / 256 / 256 / 256 / 256 / 256)
  generalize b_p (x % 256) = p0 at *
  generalize b_p (x / 256 % 256) = p1 at *
  generalize b_p (x / 256 / 256 % 256) = p2 at *
  generalize b_p (x / 256 / 256 / 256 % 256) = p3 at *
  generalize b_p (x / 256 / 256 / 256 / 256 % 256) = p4 at *
  generalize b_p (x / 256 / 256 / 256 / 256 / 256 % 256) = p5 at *
  generalize b_p (x / 256 / 256 / 256 / 256 / 256 / 256 % 256) = p6 at *
  generalize b_p (x / 256 / 256 / 256 / 256 / 256 / 256 / 256 % 256) = p7 at *
  clear hb
  unfold s_6
  refine ⟨?_, by omega, by omega⟩
  have dv : ∀ {a B q : Nat}, a < B → (a + B * q) / B = q := fun {a B q} h => by
    rw [Nat.add_mul_div_left _ _ (by omega), Nat.div_eq_of_lt h, Nat.zero_add]
  rw [dv (show p0 < 256 by omega)]
  have e2 : (p0 + 256 * (p1 + 256 * (p2 + 256 * (p3 + 256 * (p4 + 256 * (p5 + 256 * (p6 + 256 * (p7 + 256 * 0))))))) + (p1 + 256 * (p2 + 256 * (p3 + 256 * (p4 + 256 * (p5 + 256 * (p6 + 256 * (p7 + 256 * 0)))))))) = ((p0 + p1) + 256 * (p1 + p2)) + 65536 * ((p2 + p3) + 256 * (p3 + p4) + 65536 * ((p4 + p5) + 256 * (p5 + p6) + 65536 * ((p6 + p7) + 256 * p7))) := by omega
  rw [e2, dv (show (p0 + p1) + 256 * (p1 + p2) < 65536 by omega)]
  have e4 : (((p0 + p1) + 256 * (p1 + p2)) + 65536 * ((p2 + p3) + 256 * (p3 + p4) + 65536 * ((p4 + p5) + 256 * (p5 + p6) + 65536 * ((p6 + p7) + 256 * p7))) + ((p2 + p3) + 256 * (p3 + p4) + 65536 * ((p4 + p5) + 256 * (p5 + p6) + 65536 * ((p6 + p7) + 256 * p7)))) = ((p0 + p1 + p2 + p3) + 256 * (p1 + p2 + p3 + p4) + 65536 * ((p2 + p3 + p4 + p5) + 256 * (p3 + p4 + p5 + p6))) + 4294967296 * ((p4 + p5 + p6 + p7) + 256 * (p5 + p6 + p7) + 65536 * ((p6 + p7) + 256 * p7)) := by omega
  rw [e4, dv (show (p0 + p1 + p2 + p3) + 256 * (p1 + p2 + p3 + p4) + 65536 * ((p2 + p3 + p4 + p5) + 256 * (p3 + p4 + p5 + p6)) < 4294967296 by omega)]
  have e6 : (((p0 + p1 + p2 + p3) + 256 * (p1 + p2 + p3 + p4) + 65536 * ((p2 + p3 + p4 + p5) + 256 * (p3 + p4 + p5 + p6))) + 4294967296 * ((p4 + p5 + p6 + p7) + 256 * (p5 + p6 + p7) + 65536 * ((p6 + p7) + 256 * p7)) + ((p4 + p5 + p6 + p7) + 256 * (p5 + p6 + p7) + 65536 * ((p6 + p7) + 256 * p7))) = (p0 + p1 + p2 + p3 + p4 + p5 + p6 + p7) + 128 * (2 * (p1 + p2 + p3 + p4) + 512 * ((p2 + p3 + p4 + p5) + 256 * (p3 + p4 + p5 + p6)) + 33554432 * ((p4 + p5 + p6 + p7) + 256 * (p5 + p6 + p7) + 65536 * ((p6 + p7) + 256 * p7)) + 2 * (p5 + p6 + p7) + 512 * ((p6 + p7) + 256 * p7)) := by omega
  rw [e6, Nat.mod_mod_of_dvd _ (show 128 ∣ 4294967296 by decide), Nat.add_mul_mod_self_left, Nat.mod_eq_of_lt (by omega)]
  omega
/-- one bit more -/
theorem tab_inc : ∀ c : Fin 256, ∀ j : Fin 8, b_p (c.1 ||| 2 ^ j.1) = b_p c.1 + (if c.1.testBit j.1 then 0 else 1) := by decide +kernel
theorem b_P_inc : ∀ (n x p : Nat), p < 8 * n → b_P n (x ||| 2 ^ p) = b_P n x + (if x.testBit p then 0 else 1) := by
  intro n
  induction n with
  | zero => intro x p h; omega
  | succ n ih =>
    intro x p h
    rw [b_P, b_P]
    have em : (x ||| 2 ^ p) % 256 = (x % 256) ||| (2 ^ p % 256) := by rw [show 256 = 2 ^ 8 by decide, Nat.or_mod_two_pow]
    have ed : (x ||| 2 ^ p) / 256 = (x / 256) ||| (2 ^ p / 256) := by
      have : ∀ y : Nat, y / 256 = y >>> 8 := fun y => by rw [Nat.shiftRight_eq_div_pow]
      rw [this, this, this, Nat.shiftRight_or_distrib]
    rw [em, ed]
    by_cases hp : p < 8
    · have hlt : 2 ^ p < 256 := by
        have := Nat.pow_lt_pow_right (show 1 < 2 by omega) hp
        exact this
      rw [Nat.mod_eq_of_lt hlt, Nat.div_eq_of_lt hlt, Nat.or_zero]
      have t := tab_inc ⟨x % 256, Nat.mod_lt _ (by omega)⟩ ⟨p, hp⟩
      dsimp only at t
      rw [t, show (x % 256).testBit p = x.testBit p by rw [show 256 = 2 ^ 8 by decide, Nat.testBit_mod_two_pow]; simp [hp]]
      omega
    · obtain ⟨q, rfl⟩ : ∃ q, p = 8 + q := ⟨p - 8, by omega⟩
      have e1 : 2 ^ (8 + q) = 256 * 2 ^ q := by rw [Nat.pow_add]
      rw [e1, Nat.mul_mod_right, Nat.or_zero, Nat.mul_div_cancel_left _ (by omega), ih (x / 256) q (by omega)]
      have e2 : (x / 256).testBit q = x.testBit (8 + q) := by rw [show 256 = 2 ^ 8 by decide, Nat.testBit_div_two_pow]; rw [Nat.add_comm]
      rw [e2]
      omega
theorem b_P_0 : ∀ n, b_P n 0 = 0 := by
  intro n
  induction n with
  | zero => rfl
  | succ n ih => rw [b_P, Nat.zero_mod, Nat.zero_div, ih]; rfl
