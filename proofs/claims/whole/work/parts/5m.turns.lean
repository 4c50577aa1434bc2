/-! turns -/
theorem e_turn {x1 x2 : Int32} {S : dk_S} {R : Nat} (kx : (Int32 × dk_S) → Option (Int32 × dk_S)) (hR : (nI R * x1) - (nI R * x1) / 360 * 360 = 0) (hlt : ∀ j, 1 ≤ j → j < R → ¬ ((nI j * x1) - (nI j * x1) / 360 * 360 = 0)) : ∀ m i, 1 ≤ i → i ≤ R → R - i < m → fX9_turns_L49 x1 x2 kx m (nI i) S = kx (nI R, S) := by
  intro m
  induction m with
  | zero => intro i h1 h2 h3; omega
  | succ m ih =>
    intro i h1 h2 h3
    rw [fX9_turns_L49]
    by_cases h : i = R
    · subst h; rw [if_pos hR]
    · rw [if_neg (hlt i h1 (by omega)), nI_1, ih (i + 1) (by omega) (by omega) (by omega)]
theorem turn_tab : ∀ d : Fin 10, 1 ≤ d.1 → (((nI (360 / Nat.gcd d.1 360) * nI d.1) - (nI (360 / Nat.gcd d.1 360) * nI d.1) / 360 * 360 = 0) ∧ ((nI (360 / Nat.gcd d.1 360) * (-nI d.1)) - (nI (360 / Nat.gcd d.1 360) * (-nI d.1)) / 360 * 360 = 0)) ∧ (∀ j : Fin 360, 1 ≤ j.1 → j.1 < 360 / Nat.gcd d.1 360 → (¬ ((nI j.1 * nI d.1) - (nI j.1 * nI d.1) / 360 * 360 = 0)) ∧ (¬ ((nI j.1 * (-nI d.1)) - (nI j.1 * (-nI d.1)) / 360 * 360 = 0))) := by decide +kernel
theorem rem360 (x : Int32) : (0 ≤ x → 0 ≤ x - x / 360 * 360) ∧ (¬ 0 ≤ x → ¬ x - x / 360 * 360 = 0 → ¬ 0 ≤ x - x / 360 * 360) := by
  have hd : (x / 360).toInt = x.toInt.tdiv 360 := Int32.toInt_div_of_ne_right x 360 (by decide)
  have hr := i32_rng x
  have e3 : (360 : Int32).toInt = 360 := rfl
  have e0 : (0 : Int32).toInt = 0 := rfl
  by_cases h : 0 ≤ x.toInt
  · have h2 : (x / 360).toInt = x.toInt / 360 := by rw [hd, Int.tdiv_eq_ediv_of_nonneg h]
    have hm : (x / 360 * 360).toInt = x.toInt / 360 * 360 := by rw [i32_mul (by rw [h2, e3]; omega) (by rw [h2, e3]; omega), h2, e3]
    have hs : (x - x / 360 * 360).toInt = x.toInt - x.toInt / 360 * 360 := by rw [i32_sub (by rw [hm]; omega) (by rw [hm]; omega), hm]
    refine ⟨fun _ => ?_, fun q => absurd (i32_le.mpr (by rw [e0]; exact h)) q⟩
    rw [i32_le, hs, e0]
    omega
  · obtain ⟨y, hy⟩ : ∃ y : Int, x.toInt = -y := ⟨-x.toInt, by omega⟩
    have h2 : (x / 360).toInt = -(y / 360) := by rw [hd, hy, Int.neg_tdiv, Int.tdiv_eq_ediv_of_nonneg (by omega)]
    have hm : (x / 360 * 360).toInt = -(y / 360) * 360 := by rw [i32_mul (by rw [h2, e3]; omega) (by rw [h2, e3]; omega), h2, e3]
    have hs : (x - x / 360 * 360).toInt = x.toInt - -(y / 360) * 360 := by rw [i32_sub (by rw [hm]; omega) (by rw [hm]; omega), hm]
    refine ⟨fun q => absurd (i32_le.mp q) (by rw [e0]; exact h), fun _ q1 q2 => ?_⟩
    rw [i32_le, hs, e0] at q2
    rw [i32_eq, hs, e0] at q1
    omega
theorem xor360 (x : Int32) : (0 ≤ x ^^^ 360) ↔ 0 ≤ x := by
  have h1 : ∀ z : Int32, (0 ≤ z) ↔ z.toBitVec.msb = false := fun z => by
    rw [i32_le, show (0 : Int32).toInt = 0 from rfl, show z.toInt = z.toBitVec.toInt from rfl, BitVec.msb_eq_toInt]
    simp
  rw [h1, h1, Int32.toBitVec_xor, BitVec.msb_xor, show (360 : Int32).toBitVec.msb = false from by decide]
  simp
theorem q_fm (x : Int32) (S : dk_S) : fJ9_floorMod_7cf53 x 360 S = some (if 0 ≤ x - x / 360 * 360 then x - x / 360 * 360 else x - x / 360 * 360 + 360, S) := by
  unfold fJ9_floorMod_7cf53
  rw [decide_eq_true (show ¬ (360 : Int32) = 0 by decide), dk_gd_t, dk_lt_eq]
  obtain ⟨r1, r2⟩ := rem360 x
  generalize x - x / 360 * 360 = y at r1 r2
  by_cases h : 0 ≤ x
  · rw [if_pos ((xor360 x).mpr h), if_pos (r1 h)]
  · rw [if_neg (fun q => h ((xor360 x).mp q))]
    by_cases h0 : y = 0
    · rw [if_pos h0, if_pos (by rw [h0]; decide)]
    · rw [if_neg h0, if_neg (r2 h h0)]
/-- how many steps make a round -/
def t_rnd (y : Int32) : Int32 := if y = 0 then -9 else nI (360 / Nat.gcd y.toInt.natAbs 360)
theorem q_ctn {u v : Nat} (hu : u ≤ 9) (hv : v ≤ 9) (k4 : (Int32 × dk_S) → Option (Int32 × dk_S)) (S : dk_S) : (if nI u - nI v = 0 then k4 ((-9), S) else (fX8_divisor (nI u - nI v) 360 S).bind (fun r8 => (fJ9_max_7cf53 1 r8.1 r8.2).bind (fun r9 => dk_gd (decide (¬ r9.1 = 0)) (k4 (360 / r9.1, r9.2))))) = k4 (t_rnd (nI u - nI v), S) := by
  unfold t_rnd
  by_cases h : nI u - nI v = 0
  · rw [if_pos h, if_pos h]
  · rw [if_neg h, if_neg h]
    have hne : ¬ u = v := fun q => h (by rw [q, Int32.sub_self])
    have hti := pk_sub_toInt (a := u) (b := v) (by omega) (by omega)
    have hna : (nI u - nI v).toInt.natAbs < 10 := by rw [hti]; omega
    have hab : fJ9_abs_0f7a4 (nI u - nI v) S = some (nI (nI u - nI v).toInt.natAbs, S) := by
      unfold fJ9_abs_0f7a4
      rw [hti]
      by_cases hle : v ≤ u
      · rw [pk_sub hle, if_pos (nI_ge0 (by omega)), show ((u : Int) - v).natAbs = u - v by omega]
      · rw [if_neg (fun q => by rw [i32_le, hti, show (0 : Int32).toInt = 0 from rfl] at q; omega), Int32.neg_sub, pk_sub (by omega), show ((u : Int) - v).natAbs = v - u by omega]
    have g1 : 1 ≤ Nat.gcd (nI u - nI v).toInt.natAbs 360 := gcd_pos' (by omega)
    have g2 : Nat.gcd (nI u - nI v).toInt.natAbs 360 ≤ 360 := gcd_le' (by omega)
    have hd : fX8_divisor (nI u - nI v) 360 S = some (nI (Nat.gcd (nI u - nI v).toInt.natAbs 360), S) := by
      unfold fX8_divisor
      rw [hab, some_bind']
      unfold fJ9_abs_0f7a4
      rw [if_pos (by decide), some_bind']
      exact q_dv (b := 360) (by omega) (by omega)
    rw [hd, some_bind', q_max, some_bind']
    dsimp only
    rw [mx1 g1 (by omega), decide_eq_true (nI_ne0 (by omega) (by omega)), dk_gd_t, show (360 : Int32) = nI 360 from rfl, pk_div (by omega) (by omega) (by omega)]
theorem q_mtn {u v : Nat} (hu : u ≤ 9) (hv : v ≤ 9) {y3 : Int32} (k5 : (Int32 × dk_S) → Option (Int32 × dk_S)) (S : dk_S) : (if nI u - nI v = 0 then k5 ((-9), S) else fX9_turns_L49 (nI u - nI v) y3 (fun t10 : Int32 × dk_S => k5 (t10.1, t10.2)) dk_FU 1 S) = k5 (t_rnd (nI u - nI v), S) := by
  unfold t_rnd
  by_cases h : nI u - nI v = 0
  · rw [if_pos h, if_pos h]
  · rw [if_neg h, if_neg h]
    have hF := dk_FU_ge
    have hne : ¬ u = v := fun q => h (by rw [q, Int32.sub_self])
    have hti := pk_sub_toInt (a := u) (b := v) (by omega) (by omega)
    obtain ⟨d, hd⟩ : ∃ d, d = (nI u - nI v).toInt.natAbs := ⟨_, rfl⟩
    have hd1 : 1 ≤ d := by rw [hd, hti]; omega
    have hd2 : d < 10 := by rw [hd, hti]; omega
    rw [← hd]
    have g1 : 1 ≤ Nat.gcd d 360 := gcd_pos' (by omega)
    have g2 : Nat.gcd d 360 ≤ 360 := gcd_le' (by omega)
    have hR : 360 / Nat.gcd d 360 ≤ 360 := Nat.div_le_self _ _
    have hR1 : 1 ≤ 360 / Nat.gcd d 360 := (Nat.le_div_iff_mul_le (by omega)).mpr (by omega)
    obtain ⟨⟨t1, t2⟩, t3⟩ := turn_tab ⟨d, hd2⟩ hd1
    dsimp only at t1 t2 t3
    generalize 360 / Nat.gcd d 360 = R at hR hR1 t1 t2 t3 ⊢
    have hx : nI u - nI v = nI d ∨ nI u - nI v = -nI d := by
      by_cases hle : v ≤ u
      · left
        rw [pk_sub hle, hd, hti]
        congr 1
        omega
      · right
        rw [← Int32.neg_sub, pk_sub (show u ≤ v by omega), hd, hti]
        congr 2
        omega
    rcases hx with hx | hx
    · rw [hx]
      exact e_turn (fun t10 : Int32 × dk_S => k5 (t10.1, t10.2)) t1 (fun j h1 h2 => (t3 ⟨j, by omega⟩ h1 h2).1) dk_FU 1 (by omega) hR1 (by omega)
    · rw [hx]
      exact e_turn (fun t10 : Int32 × dk_S => k5 (t10.1, t10.2)) t2 (fun j h1 h2 => (t3 ⟨j, by omega⟩ h1 h2).2) dk_FU 1 (by omega) hR1 (by omega)
theorem pr_turns  {n : Nat} {S : dk_S} (hn : n < 512) (hI : dk_I n S) : ∃ (r : Int32) (S1 S2 : dk_S), fX8_turns S = some (r, S1) ∧ fX9_turns S1 = some (r, S2) ∧ dk_I (n + 1) S2 := by
  obtain ⟨c1, c2, c3⟩ := hI.2.1.2.2.2.2.1
  rcases c2 with c2 | c2
  · refine ⟨-4, S, S, by unfold fX8_turns; rw [c1, c2, if_pos rfl], by unfold fX9_turns; rw [c2, if_pos rfl], dk_I_up hI⟩
  · obtain ⟨d1, d2, d3, d4, ⟨a, b, c, d, x, y, e0, e1, e2, e3, e4, e5, r⟩, d6, d7, d8, d9⟩ := c3 c2
    have f4 : S.1 98 4 = nI x := (d1 4 (by omega)).symm.trans e4
    have f5 : S.1 98 5 = nI y := (d1 5 (by omega)).symm.trans e5
    have f9 : S.1 98 9 = S.1 5 6 := (d2 3 (by omega)).symm
    have e4' : S.1 7 4 = nI x := e4
    have e5' : S.1 7 5 = nI y := e5
    have hz1 : ∀ z : Int32, z = S.1 5 6 * (nI y - nI x) - S.1 5 6 * (nI y - nI x) / 360 * 360 → fX8_turns S = some (if 0 ≤ z then z else z + 360, dk_sr S 0 (upd (S.1 0) 12 (t_rnd (nI y - nI x)))) := fun z hz => by
      unfold fX8_turns
      rw [c1, c2, if_neg (show ¬ (1 : Int32) = 0 by decide), dk_lt_eq, dk_lt_eq, e4', e5']
      refine (q_ctn (by omega) (by omega) (fun t3 : Int32 × dk_S => ((fX8_tell t3.1 t3.2).bind (fun r5 => (fJ9_floorMod_7cf53 ((r5.2.1 5 6) * (nI y - nI x)) 360 r5.2).bind (fun r6 => some (r6.1, r6.2))) : Option (Int32 × dk_S))) S).trans ?_
      dsimp only
      rw [q_tell, some_bind', q_fm, some_bind']
      dsimp only
      rw [dk_sr_ne _ _ (by omega : ¬ 5 = 0), ← hz]
    have hz2 : ∀ (T : dk_S) (z : Int32), T.1 97 = S.1 97 → T.1 98 = S.1 98 → z = S.1 5 6 * (nI y - nI x) - S.1 5 6 * (nI y - nI x) / 360 * 360 → fX9_turns T = some (if 0 ≤ z then z else z + 360, dk_sr T 82 (upd (T.1 82) 2 (t_rnd (nI y - nI x)))) := fun T z h97 h98 hz => by
      unfold fX9_turns
      rw [h97, h98, c2, if_neg (show ¬ (1 : Int32) = 0 by decide), dk_lt_eq, dk_lt_eq, dk_lt_eq, f4, f5, f9, ← hz]
      refine (q_mtn (by omega) (by omega) (fun t4 : Int32 × dk_S => (if 0 ≤ z then (fX9_tells t4.1 z t4.2).bind (fun r7 => some (r7.1, r7.2)) else (fX9_tells t4.1 (z + 360) t4.2).bind (fun r8 => some (r8.1, r8.2)) : Option (Int32 × dk_S))) T).trans ?_
      dsimp only
      by_cases hz0 : 0 ≤ z
      · rw [if_pos hz0, if_pos hz0, q_tells, some_bind']
      · rw [if_neg hz0, if_neg hz0, q_tells, some_bind']
    exact ⟨_, _, _, hz1 _ rfl, hz2 _ _ (dk_sr_ne _ _ (by omega)) (dk_sr_ne _ _ (by omega)) rfl, dk_I_tell (v := t_rnd (nI y - nI x)) hI⟩
