/-! THE INVARIANT: what class and model hold alike -/
def i_A (S : dk_S) : Prop := S.1 0 11 = S.1 82 0 ∧ (∀ j, j < 6 → S.1 30 j = S.1 83 j) ∧ S.1 0 12 = S.1 82 2 ∧ S.2 0 13 = S.2 82 3 ∧ S.2 0 14 = S.2 82 4
def i_R (S : dk_S) : Prop := ∀ r, r < 6 → S.1 (31 + 2 * r) 1 = S.1 84 r ∧ (S.1 84 r = -1 ∨ ∃ n, n ≤ 60 ∧ S.1 84 r = nI n) ∧ ∀ i, i < 60 → S.1 (32 + 2 * r) i = S.1 85 (60 * r + i)
def i_T (S : dk_S) : Prop := ∀ t, t < 4 → S.1 (43 + 2 * t) 1 = S.1 87 t ∧ (S.1 87 t = -1 ∨ ∃ n, n ≤ 80 ∧ S.1 87 t = nI n) ∧ ∀ i, i < 80 → S.1 (44 + 2 * t) i = S.1 88 (80 * t + i)
/-- sizes as a walker's -/
def i_sz (f : Nat → Int32) : Prop := ∃ a b c d x y : Nat, f 0 = nI a ∧ f 1 = nI b ∧ f 2 = nI c ∧ f 3 = nI d ∧ f 4 = nI x ∧ f 5 = nI y ∧ (1 ≤ a ∧ a ≤ 9) ∧ (1 ≤ b ∧ b ≤ 9) ∧ (1 ≤ c ∧ c ≤ 9) ∧ (1 ≤ d ∧ d ≤ 9) ∧ x ≤ 9 ∧ y ≤ 9
def i_W (S : dk_S) : Prop := ∀ k, k < 4 → S.1 (51 + 2 * k) 2 = S.1 89 k ∧ (S.1 89 k = 0 ∨ S.1 89 k = 1) ∧ (∀ i, i < 6 → S.1 (52 + 2 * k) i = S.1 90 (7 * k + i)) ∧ S.1 (51 + 2 * k) 1 = S.1 90 (7 * k + 6) ∧ (∃ u, u < 16 ∧ S.1 (51 + 2 * k) 1 = nI u) ∧ (S.1 89 k = 1 → i_sz (S.1 (52 + 2 * k)))
def i_B (S : dk_S) : Prop := ∀ k, k < 4 → S.1 (59 + 2 * k) 2 = S.1 91 k ∧ (S.1 91 k = 0 ∨ S.1 91 k = 1) ∧ (S.1 91 k = 1 → S.1 (59 + 2 * k) 1 = S.1 92 (101 * k) ∧ ∃ u, u ≤ 9 ∧ S.1 (59 + 2 * k) 1 = nI u) ∧ (∀ i, i < 100 → S.1 (60 + 2 * k) i = S.1 92 (101 * k + 1 + i))
/-- a walk: the course c, its place f among the model's -/
def i_C (S : dk_S) (c f : Nat) : Prop := S.1 c 2 = S.1 97 f ∧ (S.1 97 f = 0 ∨ S.1 97 f = 1) ∧ (S.1 97 f = 1 → (∀ i, i < 6 → S.1 (c + 2) i = S.1 98 (114 * f + i)) ∧ (∀ i, i < 7 → S.1 c (3 + i) = S.1 98 (114 * f + (6 + i))) ∧ S.1 (c + 3) 1 = S.1 98 (114 * f + 13) ∧ (∀ i, i < 100 → S.1 (c + 4) i = S.1 98 (114 * f + (14 + i))) ∧ i_sz (S.1 (c + 2)) ∧ (∃ u, u ≤ 99 ∧ S.1 c 3 = nI u) ∧ (S.1 c 5 = 0 ∨ S.1 c 5 = 1) ∧ (∃ u, u ≤ 10000 ∧ S.1 c 6 = nI u) ∧ (S.1 c 7 = 0 ∨ S.1 c 7 = 1 ∨ S.1 c 7 = 2))
def i_K (S : dk_S) : Prop := i_C S 5 0 ∧ ∀ k, k < 3 → i_C S (67 + 5 * k) (k + 1)
def i_X (S : dk_S) : Prop := i_R S ∧ i_T S ∧ i_W S ∧ i_B S ∧ i_K S
/-- the stamps: far from the end of what a long holds -/
def i_S (n : Nat) (S : dk_S) : Prop := 0 ≤ (S.2 16 7).toInt ∧ (S.2 16 7).toInt ≤ 10000000 * (n : Int) ∧ ∀ j, j < 200 → (S.2 23 j).toInt ≤ (S.2 16 7).toInt + 400
def dk_I (n : Nat) (S : dk_S) : Prop := i_A S ∧ i_X S ∧ i_S n S
theorem i_S_up {n m : Nat} {S : dk_S} (h : i_S n S) (hm : n ≤ m) : i_S m S := ⟨h.1, by have := h.2.1; omega, h.2.2⟩
theorem dk_I_up {n : Nat} {S : dk_S} (h : dk_I n S) : dk_I (n + 1) S := ⟨h.1, h.2.1, i_S_up h.2.2 (by omega)⟩
/-- the cells that the invariant's middle part speaks of -/
def i_core (a : Nat) : Prop := (5 ≤ a ∧ a ≤ 9) ∨ (31 ≤ a ∧ a ≤ 81) ∨ a = 84 ∨ a = 85 ∨ (87 ≤ a ∧ a ≤ 92) ∨ a = 97 ∨ a = 98
theorem i_R_congr {S S2 : dk_S} (h : ∀ a, (31 ≤ a ∧ a ≤ 42) ∨ a = 84 ∨ a = 85 → S2.1 a = S.1 a) (hR : i_R S) : i_R S2 := by
  intro r hr
  rw [h (31 + 2 * r) (by omega), h 84 (by omega), h (32 + 2 * r) (by omega), h 85 (by omega)]
  exact hR r hr
theorem i_T_congr {S S2 : dk_S} (h : ∀ a, (43 ≤ a ∧ a ≤ 50) ∨ a = 87 ∨ a = 88 → S2.1 a = S.1 a) (hT : i_T S) : i_T S2 := by
  intro r hr
  rw [h (43 + 2 * r) (by omega), h 87 (by omega), h (44 + 2 * r) (by omega), h 88 (by omega)]
  exact hT r hr
theorem i_W_congr {S S2 : dk_S} (h : ∀ a, (51 ≤ a ∧ a ≤ 58) ∨ a = 89 ∨ a = 90 → S2.1 a = S.1 a) (hT : i_W S) : i_W S2 := by
  intro r hr
  rw [h (51 + 2 * r) (by omega), h 89 (by omega), h (52 + 2 * r) (by omega), h 90 (by omega)]
  exact hT r hr
theorem i_B_congr {S S2 : dk_S} (h : ∀ a, (59 ≤ a ∧ a ≤ 66) ∨ a = 91 ∨ a = 92 → S2.1 a = S.1 a) (hT : i_B S) : i_B S2 := by
  intro r hr
  rw [h (59 + 2 * r) (by omega), h 91 (by omega), h (60 + 2 * r) (by omega), h 92 (by omega)]
  exact hT r hr
theorem i_C_congr {S S2 : dk_S} {c f : Nat} (h : ∀ a, (c ≤ a ∧ a ≤ c + 4) ∨ a = 97 ∨ a = 98 → S2.1 a = S.1 a) (hT : i_C S c f) : i_C S2 c f := by
  unfold i_C
  rw [h c (by omega), h 97 (by omega), h (c + 2) (by omega), h 98 (by omega), h (c + 3) (by omega), h (c + 4) (by omega)]
  exact hT
theorem i_K_congr {S S2 : dk_S} (h : ∀ a, (5 ≤ a ∧ a ≤ 9) ∨ (67 ≤ a ∧ a ≤ 81) ∨ a = 97 ∨ a = 98 → S2.1 a = S.1 a) (hT : i_K S) : i_K S2 :=
  ⟨i_C_congr (fun a ha => h a (by omega)) hT.1, fun k hk => i_C_congr (fun a ha => h a (by omega)) (hT.2 k hk)⟩
theorem i_X_congr {S S2 : dk_S} (h : ∀ a, i_core a → S2.1 a = S.1 a) (hX : i_X S) : i_X S2 :=
  ⟨i_R_congr (fun a ha => h a (by unfold i_core; omega)) hX.1, i_T_congr (fun a ha => h a (by unfold i_core; omega)) hX.2.1, i_W_congr (fun a ha => h a (by unfold i_core; omega)) hX.2.2.1, i_B_congr (fun a ha => h a (by unfold i_core; omega)) hX.2.2.2.1, i_K_congr (fun a ha => h a (by unfold i_core; omega)) hX.2.2.2.2⟩
theorem i_S_congr {n : Nat} {S S2 : dk_S} (h : S2.2 = S.2) (hX : i_S n S) : i_S n S2 := by
  unfold i_S
  rw [h]
  exact hX
/-- both note the same finding -/
theorem dk_I_fn {n f : Nat} {S : dk_S} (hf : f < 6) (hI : dk_I n S) : dk_I (n + 1) (q_nts (q_fnd S f) f) := by
  obtain ⟨⟨a1, a2, a3, a4, a5⟩, hX, hS⟩ := hI
  refine ⟨⟨?_, ?_, ?_, ?_, ?_⟩, i_X_congr (fun a ha => ?_) hX, i_S_up (i_S_congr rfl hS) (by omega)⟩
  · simp [q_nts, q_fnd, dk_sr_1, upd_at]
  · intro j hj
    by_cases h : j = f
    · subst h; simp [q_nts, q_fnd, dk_sr_1, upd_at, a2 j hj]
    · simp [q_nts, q_fnd, dk_sr_1, upd_at, h, a2 j hj]
  · simp [q_nts, q_fnd, dk_sr_1, upd_at, a3]
  · exact a4
  · exact a5
  · unfold i_core at ha
    simp only [q_nts, q_fnd, dk_sr_1]
    rw [if_neg (by omega), if_neg (by omega), if_neg (by omega), if_neg (by omega)]
theorem dk_I_tell {n : Nat} {S : dk_S} {v : Int32} (hI : dk_I n S) : dk_I (n + 1) (dk_sr (dk_sr S 0 (upd (S.1 0) 12 v)) 82 (upd ((dk_sr S 0 (upd (S.1 0) 12 v)).1 82) 2 v)) := by
  obtain ⟨⟨a1, a2, a3, a4, a5⟩, hX, hS⟩ := hI
  refine ⟨⟨?_, ?_, ?_, ?_, ?_⟩, i_X_congr (fun a ha => ?_) hX, i_S_up (i_S_congr rfl hS) (by omega)⟩
  · simp [dk_sr_1, upd_at, a1]
  · intro j hj
    simp [dk_sr_1, a2 j hj]
  · simp [dk_sr_1, upd_at]
  · exact a4
  · exact a5
  · unfold i_core at ha
    simp only [dk_sr_1]
    rw [if_neg (by omega), if_neg (by omega)]
/-- the first state -/
theorem dk_I_0 : dk_I 0 dk_S0 := by
  refine ⟨⟨rfl, ?_, rfl, rfl, rfl⟩, ⟨?_, ?_, ?_, ?_, ⟨?_, ?_⟩⟩, ⟨by decide, by decide, ?_⟩⟩
  · intro j hj; rfl
  · intro r hr
    rcases (show r = 0 ∨ r = 1 ∨ r = 2 ∨ r = 3 ∨ r = 4 ∨ r = 5 by omega) with rfl | rfl | rfl | rfl | rfl | rfl <;> exact ⟨rfl, Or.inl rfl, fun i _ => rfl⟩
  · intro r hr
    rcases (show r = 0 ∨ r = 1 ∨ r = 2 ∨ r = 3 by omega) with rfl | rfl | rfl | rfl <;> exact ⟨rfl, Or.inl rfl, fun i _ => rfl⟩
  · intro r hr
    rcases (show r = 0 ∨ r = 1 ∨ r = 2 ∨ r = 3 by omega) with rfl | rfl | rfl | rfl <;> exact ⟨rfl, Or.inl rfl, fun i _ => rfl, rfl, ⟨0, by omega, rfl⟩, fun h => absurd h (by decide)⟩
  · intro r hr
    rcases (show r = 0 ∨ r = 1 ∨ r = 2 ∨ r = 3 by omega) with rfl | rfl | rfl | rfl <;> exact ⟨rfl, Or.inl rfl, fun h => absurd h (by decide), fun i _ => rfl⟩
  · exact ⟨rfl, Or.inl rfl, fun h => absurd h (by decide)⟩
  · intro r hr
    rcases (show r = 0 ∨ r = 1 ∨ r = 2 by omega) with rfl | rfl | rfl <;> exact ⟨rfl, Or.inl rfl, fun h => absurd h (by decide)⟩
  · intro j hj
    show (0 : Int64).toInt ≤ (0 : Int64).toInt + 400
    decide
theorem i_S_c {n : Nat} {S S2 : dk_S} (h : S2.2 16 = S.2 16) (h3 : S2.2 23 = S.2 23) (hX : i_S n S) : i_S n S2 := by
  unfold i_S
  rw [h, h3]
  exact hX
theorem i_A_congr {S S2 : dk_S} (h0 : S2.1 0 = S.1 0) (h3 : S2.1 30 = S.1 30) (h8 : S2.1 82 = S.1 82) (h9 : S2.1 83 = S.1 83) (h2 : S2.2 = S.2) (hA : i_A S) : i_A S2 := by
  unfold i_A
  rw [h0, h3, h8, h9, h2]
  exact hA
theorem i_A_tell {S S2 : dk_S} {v : Int32} (h0 : S2.1 0 = upd (S.1 0) 12 v) (h3 : S2.1 30 = S.1 30) (h8 : S2.1 82 = upd (S.1 82) 2 v) (h9 : S2.1 83 = S.1 83) (h2 : S2.2 = S.2) (hA : i_A S) : i_A S2 := by
  obtain ⟨a1, a2, a3, a4, a5⟩ := hA
  unfold i_A
  rw [h0, h3, h8, h9, h2]
  refine ⟨?_, a2, ?_, a4, a5⟩
  · rw [upd_ne _ _ (by omega), upd_ne _ _ (by omega)]; exact a1
  · rw [upd_same, upd_same]
theorem dk_I_R {n : Nat} {S S2 : dk_S} (hI : dk_I n S) (hA : i_A S2) (hR : i_R S2) (h : ∀ a, (5 ≤ a ∧ a ≤ 9) ∨ (43 ≤ a ∧ a ≤ 81) ∨ (87 ≤ a ∧ a ≤ 92) ∨ a = 97 ∨ a = 98 → S2.1 a = S.1 a) (h2 : S2.2 = S.2) : dk_I (n + 1) S2 := by
  obtain ⟨-, ⟨-, hX2, hX3, hX4, hX5⟩, hS⟩ := hI
  exact ⟨hA, ⟨hR, i_T_congr (fun a ha => h a (by omega)) hX2, i_W_congr (fun a ha => h a (by omega)) hX3, i_B_congr (fun a ha => h a (by omega)) hX4, i_K_congr (fun a ha => h a (by omega)) hX5⟩, i_S_up (i_S_congr h2 hS) (by omega)⟩
theorem dk_I_T {n : Nat} {S S2 : dk_S} (hI : dk_I n S) (hA : i_A S2) (hR : i_T S2) (h : ∀ a, (5 ≤ a ∧ a ≤ 9) ∨ (31 ≤ a ∧ a ≤ 42) ∨ (51 ≤ a ∧ a ≤ 81) ∨ a = 84 ∨ a = 85 ∨ (89 ≤ a ∧ a ≤ 92) ∨ a = 97 ∨ a = 98 → S2.1 a = S.1 a) (h2 : S2.2 = S.2) : dk_I (n + 1) S2 := by
  obtain ⟨-, ⟨hX1, hX2, hX3, hX4, hX5⟩, hS⟩ := hI
  exact ⟨hA, ⟨i_R_congr (fun a ha => h a (by omega)) hX1, hR, i_W_congr (fun a ha => h a (by omega)) hX3, i_B_congr (fun a ha => h a (by omega)) hX4, i_K_congr (fun a ha => h a (by omega)) hX5⟩, i_S_up (i_S_congr h2 hS) (by omega)⟩
theorem dk_I_W {n : Nat} {S S2 : dk_S} (hI : dk_I n S) (hA : i_A S2) (hR : i_W S2) (h : ∀ a, (5 ≤ a ∧ a ≤ 9) ∨ (31 ≤ a ∧ a ≤ 50) ∨ (59 ≤ a ∧ a ≤ 81) ∨ a = 84 ∨ a = 85 ∨ a = 87 ∨ a = 88 ∨ a = 91 ∨ a = 92 ∨ a = 97 ∨ a = 98 → S2.1 a = S.1 a) (h2 : S2.2 = S.2) : dk_I (n + 1) S2 := by
  obtain ⟨-, ⟨hX1, hX2, hX3, hX4, hX5⟩, hS⟩ := hI
  exact ⟨hA, ⟨i_R_congr (fun a ha => h a (by omega)) hX1, i_T_congr (fun a ha => h a (by omega)) hX2, hR, i_B_congr (fun a ha => h a (by omega)) hX4, i_K_congr (fun a ha => h a (by omega)) hX5⟩, i_S_up (i_S_congr h2 hS) (by omega)⟩
theorem dk_I_B {n : Nat} {S S2 : dk_S} (hI : dk_I n S) (hA : i_A S2) (hR : i_B S2) (h : ∀ a, (5 ≤ a ∧ a ≤ 9) ∨ (31 ≤ a ∧ a ≤ 58) ∨ (67 ≤ a ∧ a ≤ 81) ∨ a = 84 ∨ a = 85 ∨ (87 ≤ a ∧ a ≤ 90) ∨ a = 97 ∨ a = 98 → S2.1 a = S.1 a) (h2 : S2.2 = S.2) : dk_I (n + 1) S2 := by
  obtain ⟨-, ⟨hX1, hX2, hX3, hX4, hX5⟩, hS⟩ := hI
  exact ⟨hA, ⟨i_R_congr (fun a ha => h a (by omega)) hX1, i_T_congr (fun a ha => h a (by omega)) hX2, i_W_congr (fun a ha => h a (by omega)) hX3, hR, i_K_congr (fun a ha => h a (by omega)) hX5⟩, i_S_up (i_S_congr h2 hS) (by omega)⟩
theorem dk_I_K {n : Nat} {S S2 : dk_S} (hI : dk_I n S) (hA : i_A S2) (hR : i_K S2) (h : ∀ a, (31 ≤ a ∧ a ≤ 66) ∨ a = 84 ∨ a = 85 ∨ (87 ≤ a ∧ a ≤ 92) → S2.1 a = S.1 a) (h2 : S2.2 = S.2) : dk_I (n + 1) S2 := by
  obtain ⟨-, ⟨hX1, hX2, hX3, hX4, hX5⟩, hS⟩ := hI
  exact ⟨hA, ⟨i_R_congr (fun a ha => h a (by omega)) hX1, i_T_congr (fun a ha => h a (by omega)) hX2, i_W_congr (fun a ha => h a (by omega)) hX3, i_B_congr (fun a ha => h a (by omega)) hX4, hR⟩, i_S_up (i_S_congr h2 hS) (by omega)⟩
theorem pr_of {n : Nat} {γ : Type} {F G : dk_S → Option (γ × dk_S)} {S S1 S2 : dk_S} {r : γ} (h1 : F S = some (r, S1)) (h2 : G S1 = some (r, S2)) (h3 : dk_I (n + 1) S2) : ∃ (r : γ) (S1 S2 : dk_S), F S = some (r, S1) ∧ G S1 = some (r, S2) ∧ dk_I (n + 1) S2 := ⟨r, S1, S2, h1, h2, h3⟩
theorem i_10 : ((1 : Int32) = 0) = False := by simp
