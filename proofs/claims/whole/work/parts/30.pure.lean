/-! PURE REASONING: reads behind writes, numbers -/
theorem dk_sr_same (S : dk_S) (k : Nat) (f : Nat → Int32) : (dk_sr S k f).1 k = f := by simp [dk_sr]
theorem dk_sr_ne (S : dk_S) {k a : Nat} (f : Nat → Int32) (h : ¬ a = k) : (dk_sr S k f).1 a = S.1 a := by simp [dk_sr, h]
theorem dk_sr_1 (S : dk_S) (k a : Nat) (f : Nat → Int32) : (dk_sr S k f).1 a = if a = k then f else S.1 a := rfl
theorem dk_sr_2 (S : dk_S) (k : Nat) (f : Nat → Int32) : (dk_sr S k f).2 = S.2 := rfl
theorem dk_sq_1 (S : dk_S) (k : Nat) (f : Nat → Int64) : (dk_sq S k f).1 = S.1 := rfl
theorem dk_sq_2 (S : dk_S) (k a : Nat) (f : Nat → Int64) : (dk_sq S k f).2 a = if a = k then f else S.2 a := rfl
theorem dk_si_eq (S : dk_S) (k j : Nat) (v : Int32) : dk_si S k j v = dk_sr S k (upd (S.1 k) j v) := rfl
theorem dk_sl_eq (S : dk_S) (k j : Nat) (v : Int64) : dk_sl S k j v = dk_sq S k (vp_updL (S.2 k) j v) := rfl
theorem dk_sr_sr (S : dk_S) (k : Nat) (f g : Nat → Int32) : dk_sr (dk_sr S k f) k g = dk_sr S k g := by
  unfold dk_sr
  refine Prod.ext ?_ rfl
  funext a
  by_cases h : a = k <;> simp [h]
theorem dk_sr_id (S : dk_S) (k : Nat) : dk_sr S k (S.1 k) = S := by
  unfold dk_sr
  refine Prod.ext ?_ rfl
  funext a
  by_cases h : a = k <;> simp [h]
theorem dk_sr_comm (S : dk_S) {k a : Nat} (f g : Nat → Int32) (h : ¬ k = a) : dk_sr (dk_sr S k f) a g = dk_sr (dk_sr S a g) k f := by
  unfold dk_sr
  refine Prod.ext ?_ rfl
  funext b
  by_cases h1 : b = k
  · subst h1; simp [h]
  · by_cases h2 : b = a
    · subst h2; simp [h1]
    · simp [h1, h2]
theorem dk_sr_sq (S : dk_S) (k a : Nat) (f : Nat → Int32) (g : Nat → Int64) : dk_sr (dk_sq S a g) k f = dk_sq (dk_sr S k f) a g := rfl
theorem upd_same (f : Nat → Int32) (j : Nat) (v : Int32) : upd f j v j = v := by simp [upd]
theorem upd_ne (f : Nat → Int32) {j i : Nat} (v : Int32) (h : ¬ i = j) : upd f j v i = f i := by simp [upd, h]
theorem upd_at (f : Nat → Int32) (j i : Nat) (v : Int32) : upd f j v i = if i = j then v else f i := rfl
theorem dk_gd_t {β : Type} (o : Option β) : dk_gd true o = o := rfl
theorem dk_lt_eq {α β : Type} (x : α) (f : α → β) : dk_lt x f = f x := rfl
theorem some_bind' {α β : Type} (x : α) (f : α → Option β) : (some x).bind f = f x := rfl
/-- numbers -/
theorem nI_mul (a b : Nat) : nI a * nI b = nI (a * b) := (Int32.ofNat_mul a b).symm
theorem dI_in {i n : Nat} (h : i < n) (hn : n < 2 ^ 31) : dk_in (nI i) n = true := decide_eq_true (nI_in h hn)
theorem dI_out {i n : Nat} (h : n ≤ i) (hn : i < 2 ^ 31) : dk_in (nI i) n = false := decide_eq_false (fun q => q (Or.inr (by rw [nI_clamp hn]; exact h)))
theorem dI_neg {x : Int32} {n : Nat} (h : x < 0) : dk_in x n = false := decide_eq_false (fun q => q (Or.inl h))
/-- within two numbers -/
theorem dI_of {x : Int32} {n : Nat} (hn : n < 2 ^ 31) (h0 : 0 ≤ x) (h1 : x ≤ nI n) : ∃ j, j ≤ n ∧ x = nI j := nI_of2 (nI_toInt hn) (by intro h; rw [Int32.lt_iff_toInt_lt] at h; rw [Int32.le_iff_toInt_le] at h0; omega) h1
theorem i32_lt {x y : Int32} : x < y ↔ x.toInt < y.toInt := Int32.lt_iff_toInt_lt
theorem i32_le {x y : Int32} : x ≤ y ↔ x.toInt ≤ y.toInt := Int32.le_iff_toInt_le
theorem i32_nlt {x y : Int32} : ¬ x < y ↔ y ≤ x := by rw [i32_lt, i32_le]; omega
theorem i32_nle {x y : Int32} : ¬ x ≤ y ↔ y < x := by rw [i32_lt, i32_le]; omega
theorem i32_eq {x y : Int32} : x = y ↔ x.toInt = y.toInt := Int32.toInt_inj.symm
theorem i32_rng (x : Int32) : -2147483648 ≤ x.toInt ∧ x.toInt < 2147483648 := ⟨Int32.le_toInt x, Int32.toInt_lt x⟩
theorem i32_add {x y : Int32} (h1 : -2147483648 ≤ x.toInt + y.toInt) (h2 : x.toInt + y.toInt < 2147483648) : (x + y).toInt = x.toInt + y.toInt := by
  rw [Int32.toInt_add]; exact Int.bmod_eq_of_le (by omega) (by omega)
theorem i32_sub {x y : Int32} (h1 : -2147483648 ≤ x.toInt - y.toInt) (h2 : x.toInt - y.toInt < 2147483648) : (x - y).toInt = x.toInt - y.toInt := by
  rw [Int32.toInt_sub]; exact Int.bmod_eq_of_le (by omega) (by omega)
theorem i32_mul {x y : Int32} (h1 : -2147483648 ≤ x.toInt * y.toInt) (h2 : x.toInt * y.toInt < 2147483648) : (x * y).toInt = x.toInt * y.toInt := by
  rw [Int32.toInt_mul]; exact Int.bmod_eq_of_le (by omega) (by omega)
/-! what the small methods answer -/
theorem q_isOutside (v a b : Int32) (S : dk_S) : fX8_isOutside v a b S = some (if a ≤ v ∧ v ≤ b then 0 else 1, S) := by
  unfold fX8_isOutside
  by_cases h1 : v < a
  · rw [if_pos h1, if_neg (fun h => absurd h1 (i32_nlt.mpr h.1))]
  · by_cases h2 : v ≤ b
    · rw [if_neg h1, if_pos h2, if_pos ⟨i32_nlt.mp h1, h2⟩]
    · rw [if_neg h1, if_neg h2, if_neg (fun h => h2 h.2)]
theorem q_in (v a b : Int32) (S : dk_S) : fX9_in v a b S = some (if a ≤ v ∧ v ≤ b then 1 else 0, S) := by
  unfold fX9_in
  by_cases h1 : v < a
  · rw [if_pos h1, if_neg (fun h => absurd h1 (i32_nlt.mpr h.1))]
  · by_cases h2 : b < v
    · rw [if_neg h1, if_pos h2, if_neg (fun h => absurd h2 (i32_nlt.mpr h.2))]
    · rw [if_neg h1, if_neg h2, if_pos ⟨i32_nlt.mp h1, i32_nlt.mp h2⟩]
theorem q_bool (P : Prop) (dp : Decidable P) : decide ((if P then (0 : Int32) else 1) = 0 ∨ (if P then (0 : Int32) else 1) = 1) = true := by
  by_cases h : P <;> simp [h]
theorem q_bool' (P : Prop) (dp : Decidable P) : decide ((if P then (1 : Int32) else 0) = 0 ∨ (if P then (1 : Int32) else 0) = 1) = true := by
  by_cases h : P <;> simp [h]
theorem q_noRow (v : Int32) (S : dk_S) : fX8_noRow v S = some (if 0 ≤ v ∧ v ≤ 5 then 0 else 1, S) := by simp only [fX8_noRow, q_isOutside, some_bind', q_bool, dk_gd_t]
theorem q_noText (v : Int32) (S : dk_S) : fX8_noText v S = some (if 0 ≤ v ∧ v ≤ 3 then 0 else 1, S) := by simp only [fX8_noText, q_isOutside, some_bind', q_bool, dk_gd_t]
theorem q_noWalker (v : Int32) (S : dk_S) : fX8_noWalker v S = some (if 0 ≤ v ∧ v ≤ 3 then 0 else 1, S) := by simp only [fX8_noWalker, q_isOutside, some_bind', q_bool, dk_gd_t]
theorem q_noBoard (v : Int32) (S : dk_S) : fX8_noBoard v S = some (if 0 ≤ v ∧ v ≤ 3 then 0 else 1, S) := by simp only [fX8_noBoard, q_isOutside, some_bind', q_bool, dk_gd_t]
theorem q_noSlope (v : Int32) (S : dk_S) : fX8_noSlope v S = some (if 0 ≤ v ∧ v ≤ 99 then 0 else 1, S) := by simp only [fX8_noSlope, q_isOutside, some_bind', q_bool, dk_gd_t]
theorem q_noPace (v : Int32) (S : dk_S) : fX8_noPace v S = some (if 0 ≤ v ∧ v ≤ 99 then 0 else 1, S) := by simp only [fX8_noPace, q_isOutside, some_bind', q_bool, dk_gd_t]
theorem q_noPair (w b p : Int32) (S : dk_S) : fX8_noPair w b p S = some (if (0 ≤ w ∧ w ≤ 3) ∧ (0 ≤ b ∧ b ≤ 3) ∧ (0 ≤ p ∧ p ≤ 99) then 0 else 1, S) := by
  simp only [fX8_noPair, q_noWalker, q_noBoard, q_noPace, some_bind']
  by_cases h1 : 0 ≤ w ∧ w ≤ 3 <;> by_cases h2 : 0 ≤ b ∧ b ≤ 3 <;> by_cases h3 : 0 ≤ p ∧ p ≤ 99 <;> simp [h1, h2, h3]
theorem q_noGoing (w b s p : Int32) (S : dk_S) : fX8_noGoing w b s p S = some (if ((0 ≤ w ∧ w ≤ 3) ∧ (0 ≤ b ∧ b ≤ 3) ∧ (0 ≤ p ∧ p ≤ 99)) ∧ (0 ≤ s ∧ s ≤ 99) then 0 else 1, S) := by
  simp only [fX8_noGoing, q_noPair, q_noSlope, some_bind']
  by_cases h1 : (0 ≤ w ∧ w ≤ 3) ∧ (0 ≤ b ∧ b ≤ 3) ∧ (0 ≤ p ∧ p ≤ 99) <;> by_cases h2 : 0 ≤ s ∧ s ≤ 99 <;> simp [h1, h2]
theorem q_isRow (v : Int32) (S : dk_S) : fX9_isRow v S = some (if 0 ≤ v ∧ v ≤ 5 then 1 else 0, S) := by simp only [fX9_isRow, q_in, some_bind', q_bool', dk_gd_t]
theorem q_isText (v : Int32) (S : dk_S) : fX9_isText v S = some (if 0 ≤ v ∧ v ≤ 3 then 1 else 0, S) := by simp only [fX9_isText, q_in, some_bind', q_bool', dk_gd_t]
theorem q_isPlace (v : Int32) (S : dk_S) : fX9_isPlace v S = some (if 0 ≤ v ∧ v ≤ 3 then 1 else 0, S) := by simp only [fX9_isPlace, q_in, some_bind', q_bool', dk_gd_t]
theorem q_areGood (w b s p : Int32) (S : dk_S) : fX9_areGood w b s p S = some (if (0 ≤ w ∧ w ≤ 3) ∧ (0 ≤ b ∧ b ≤ 3) ∧ (0 ≤ s ∧ s ≤ 99) ∧ (0 ≤ p ∧ p ≤ 99) then 1 else 0, S) := by
  simp only [fX9_areGood, q_isPlace, q_in, some_bind']
  by_cases h1 : 0 ≤ w ∧ w ≤ 3 <;> by_cases h2 : 0 ≤ b ∧ b ≤ 3 <;> by_cases h3 : 0 ≤ s ∧ s ≤ 99 <;> by_cases h4 : 0 ≤ p ∧ p ≤ 99 <;> simp [h1, h2, h3, h4]
/-- a finding -/
def q_fnd (S : dk_S) (f : Nat) : dk_S := dk_sr (dk_sr S 0 (upd (S.1 0) 11 (nI f))) 30 (upd (S.1 30) f (S.1 30 f + 1))
def q_nts (S : dk_S) (f : Nat) : dk_S := dk_sr (dk_sr S 82 (upd (S.1 82) 0 (nI f))) 83 (upd (S.1 83) f (S.1 83 f + 1))
theorem q_found {f : Nat} (h : f < 6) (S : dk_S) : fX8_found (nI f) S = some (-3, q_fnd S f) := by
  unfold fX8_found
  rw [dI_in h (by decide), nI_clamp (by omega)]
  rfl
theorem q_notes {f : Nat} (h : f < 6) (S : dk_S) : fX9_notes (nI f) S = some (-3, q_nts S f) := by
  unfold fX9_notes
  rw [dI_in h (by decide), nI_clamp (by omega)]
  rfl
theorem q_tell (v : Int32) (S : dk_S) : fX8_tell v S = some (1, dk_sr S 0 (upd (S.1 0) 12 v)) := rfl
theorem q_tells (v a : Int32) (S : dk_S) : fX9_tells v a S = some (a, dk_sr S 82 (upd (S.1 82) 2 v)) := rfl
