theorem dnw_L_7 : dk_Nw "DuckWalkLaw" 7 8 [.null, .null, .null, .null, .null, .null, .null, .null, .null, .null, .null, .int 0, .int 0, .long 0, .long 0] := ⟨RX8, TX8, 15, tyX8, rfl, rfl, dl_ws8, tyX8_ok, by decide +kernel, dk_m1 16 rfl rfl, dk_m1 17 rfl rfl, dk_m1 1 rfl rfl⟩
theorem dnw_L_10 : dk_Nw "DuckWalkLaw" 10 9 [.int 0, .null, .int 0, .long 0, .long 0, .null, .null, .null, .null, .null, .null, .null, .null, .null, .int 0, .int 0, .int 0, .null, .null, .null, .int 0, .int 0, .null, .int 0, .int 0, .int 0, .int 0, .int 0, .int 0, .int 0, .null, .null, .null, .null, .int 0, .int 0, .int 0, .int 0, .null, .null, .long 0] := ⟨RX9, TX9, 41, tyX9, rfl, rfl, dl_ws9, tyX9_ok, by decide +kernel, dk_m4 121 rfl rfl, dk_m4 122 rfl rfl, dk_m1 10 rfl rfl⟩
theorem dwi_L_9 : dk_WI "DuckWalkLaw" 9 yX8_init cX8_init 2 := ⟨Or.inl (dk_m1 18 rfl rfl), dk_m1 19 rfl rfl, dk_m1 1 rfl rfl, dk_m1 20 rfl rfl, by decide, by decide, by decide +kernel, rfl⟩
theorem dwi_L_12 : dk_WI "DuckWalkLaw" 12 yX9_init cX9_init 2 := ⟨Or.inl (dk_m4 123 rfl rfl), dk_m4 124 rfl rfl, dk_m1 10 rfl rfl, dk_m4 125 rfl rfl, by decide, by decide, by decide +kernel, rfl⟩
def dk_ad (q0 q82 : Nat) (x8 x9 : Nat → Nat) : Nat → Nat := fun k => if k = 0 then q0 else if k < 82 then x8 (k - 1) else if k = 82 then q82 else x9 (k - 83)
/-- the world behind the two constructors -/
def dk_W0 (cA : Nat → ClassId) (q0 q82 : Nat) (x8 x9 : Nat → Nat) : va_W := (q0, .inr (8, [.ref (x8 0), .ref (x8 1), .ref (x8 2), .ref (x8 3), .ref (x8 4), .ref (x8 9), .ref (x8 10), .ref (x8 15), .ref (x8 23), .ref (x8 28), .ref (x8 29), .int 0, .int 0, .long 0, .long 1])) :: ([(x8 0, .inl (cA 4, 6, .inr (.inr (.inr (.inr (va_up (va_up (va_up (va_up (va_up (va_up (fun _ => none) 0 (some (x8 30))) 1 (some (x8 32))) 2 (some (x8 34))) 3 (some (x8 36))) 4 (some (x8 38))) 5 (some (x8 40)))))))), (x8 1, .inl (cA 5, 4, .inr (.inr (.inr (.inr (va_up (va_up (va_up (va_up (fun _ => none) 0 (some (x8 42))) 1 (some (x8 44))) 2 (some (x8 46))) 3 (some (x8 48)))))))), (x8 2, .inl (cA 6, 4, .inr (.inr (.inr (.inr (va_up (va_up (va_up (va_up (fun _ => none) 0 (some (x8 50))) 1 (some (x8 52))) 2 (some (x8 54))) 3 (some (x8 56)))))))), (x8 3, .inl (cA 7, 4, .inr (.inr (.inr (.inr (va_up (va_up (va_up (va_up (fun _ => none) 0 (some (x8 58))) 1 (some (x8 60))) 2 (some (x8 62))) 3 (some (x8 64)))))))), (x8 4, .inr (0, [.ref (x8 5), .ref (x8 7), .int 0, .int 0, .int 0, .int 0, .int 0, .int 0, .int 0, .int 0])), (x8 5, .inr (1, [.ref (x8 6), .int 0, .int 0])), (x8 6, .inl (cA 0, 6, .inl (fun _ => 0))), (x8 7, .inr (3, [.ref (x8 8), .int 1, .int 0])), (x8 8, .inl (cA 0, 100, .inl (fun _ => 0))), (x8 9, .inl (cA 8, 3, .inr (.inr (.inr (.inr (va_up (va_up (va_up (fun _ => none) 0 (some (x8 66))) 1 (some (x8 71))) 2 (some (x8 76)))))))), (x8 10, .inr (4, [.ref (x8 11), .ref (x8 13), .int 0, .int (-9)])), (x8 11, .inr (1, [.ref (x8 12), .int 0, .int 0])), (x8 12, .inl (cA 0, 6, .inl (fun _ => 0))), (x8 13, .inr (3, [.ref (x8 14), .int 1, .int 0])), (x8 14, .inl (cA 0, 100, .inl (fun _ => 0))), (x8 15, .inr (7, [.ref (x8 16), .int 0, .int 0, .int 0, .int 0, .ref (x8 21), .ref (x8 22), .long 0])), (x8 16, .inr (0, [.ref (x8 17), .ref (x8 19), .int 0, .int 0, .int 0, .int 0, .int 0, .int 0, .int 0, .int 0])), (x8 17, .inr (1, [.ref (x8 18), .int 0, .int 0])), (x8 18, .inl (cA 0, 6, .inl (fun _ => 0))), (x8 19, .inr (3, [.ref (x8 20), .int 1, .int 0])), (x8 20, .inl (cA 0, 100, .inl (fun _ => 0))), (x8 21, .inl (cA 0, 401, .inl (fun _ => 0))), (x8 22, .inl (cA 3, 200, .inr (.inl (fun _ => 0)))), (x8 23, .inr (0, [.ref (x8 24), .ref (x8 26), .int 0, .int 0, .int 0, .int 0, .int 0, .int 0, .int 0, .int 0])), (x8 24, .inr (1, [.ref (x8 25), .int 0, .int 0])), (x8 25, .inl (cA 0, 6, .inl (fun _ => 0))), (x8 26, .inr (3, [.ref (x8 27), .int 1, .int 0])), (x8 27, .inl (cA 0, 100, .inl (fun _ => 0))), (x8 28, .inr (2, [.int 0, .int 0, .int 0, .int 0])), (x8 29, .inl (cA 0, 6, .inl (fun _ => 0))), (x8 30, .inr (5, [.ref (x8 31), .int (-1)])), (x8 31, .inl (cA 0, 60, .inl (fun _ => 0))), (x8 32, .inr (5, [.ref (x8 33), .int (-1)])), (x8 33, .inl (cA 0, 60, .inl (fun _ => 0))), (x8 34, .inr (5, [.ref (x8 35), .int (-1)])), (x8 35, .inl (cA 0, 60, .inl (fun _ => 0))), (x8 36, .inr (5, [.ref (x8 37), .int (-1)])), (x8 37, .inl (cA 0, 60, .inl (fun _ => 0))), (x8 38, .inr (5, [.ref (x8 39), .int (-1)])), (x8 39, .inl (cA 0, 60, .inl (fun _ => 0))), (x8 40, .inr (5, [.ref (x8 41), .int (-1)])), (x8 41, .inl (cA 0, 60, .inl (fun _ => 0))), (x8 42, .inr (6, [.ref (x8 43), .int (-1)])), (x8 43, .inl (cA 1, 80, .inl (fun _ => 0))), (x8 44, .inr (6, [.ref (x8 45), .int (-1)])), (x8 45, .inl (cA 1, 80, .inl (fun _ => 0))), (x8 46, .inr (6, [.ref (x8 47), .int (-1)])), (x8 47, .inl (cA 1, 80, .inl (fun _ => 0))), (x8 48, .inr (6, [.ref (x8 49), .int (-1)])), (x8 49, .inl (cA 1, 80, .inl (fun _ => 0))), (x8 50, .inr (1, [.ref (x8 51), .int 0, .int 0])), (x8 51, .inl (cA 0, 6, .inl (fun _ => 0))), (x8 52, .inr (1, [.ref (x8 53), .int 0, .int 0])), (x8 53, .inl (cA 0, 6, .inl (fun _ => 0))), (x8 54, .inr (1, [.ref (x8 55), .int 0, .int 0])), (x8 55, .inl (cA 0, 6, .inl (fun _ => 0))), (x8 56, .inr (1, [.ref (x8 57), .int 0, .int 0])), (x8 57, .inl (cA 0, 6, .inl (fun _ => 0))), (x8 58, .inr (3, [.ref (x8 59), .int 1, .int 0])), (x8 59, .inl (cA 0, 100, .inl (fun _ => 0))), (x8 60, .inr (3, [.ref (x8 61), .int 1, .int 0])), (x8 61, .inl (cA 0, 100, .inl (fun _ => 0))), (x8 62, .inr (3, [.ref (x8 63), .int 1, .int 0])), (x8 63, .inl (cA 0, 100, .inl (fun _ => 0))), (x8 64, .inr (3, [.ref (x8 65), .int 1, .int 0])), (x8 65, .inl (cA 0, 100, .inl (fun _ => 0))), (x8 66, .inr (0, [.ref (x8 67), .ref (x8 69), .int 0, .int 0, .int 0, .int 0, .int 0, .int 0, .int 0, .int 0])), (x8 67, .inr (1, [.ref (x8 68), .int 0, .int 0])), (x8 68, .inl (cA 0, 6, .inl (fun _ => 0))), (x8 69, .inr (3, [.ref (x8 70), .int 1, .int 0])), (x8 70, .inl (cA 0, 100, .inl (fun _ => 0))), (x8 71, .inr (0, [.ref (x8 72), .ref (x8 74), .int 0, .int 0, .int 0, .int 0, .int 0, .int 0, .int 0, .int 0])), (x8 72, .inr (1, [.ref (x8 73), .int 0, .int 0])), (x8 73, .inl (cA 0, 6, .inl (fun _ => 0))), (x8 74, .inr (3, [.ref (x8 75), .int 1, .int 0])), (x8 75, .inl (cA 0, 100, .inl (fun _ => 0))), (x8 76, .inr (0, [.ref (x8 77), .ref (x8 79), .int 0, .int 0, .int 0, .int 0, .int 0, .int 0, .int 0, .int 0])), (x8 77, .inr (1, [.ref (x8 78), .int 0, .int 0])), (x8 78, .inl (cA 0, 6, .inl (fun _ => 0))), (x8 79, .inr (3, [.ref (x8 80), .int 1, .int 0])), (x8 80, .inl (cA 0, 100, .inl (fun _ => 0)))] ++ ((q82, .inr (9, [.int 0, .ref (x9 0), .int 0, .long 0, .long 1, .ref (x9 1), .ref (x9 2), .ref (x9 3), .ref (x9 4), .ref (x9 5), .ref (x9 6), .ref (x9 7), .ref (x9 8), .ref (x9 9), .int 0, .int 0, .int 0, .ref (x9 10), .ref (x9 11), .ref (x9 12), .int 0, .int 0, .ref (x9 13), .int 0, .int 0, .int 0, .int 0, .int 0, .int 0, .int 0, .ref (x9 14), .ref (x9 15), .ref (x9 16), .ref (x9 17), .int 0, .int 0, .int 0, .int 0, .ref (x9 18), .ref (x9 19), .long 0])) :: [(x9 0, .inl (cA 0, 6, .inl (fun _ => 0))), (x9 1, .inl (cA 0, 6, .inl (upd (upd (upd (upd (upd (upd (fun _ => 0) 0 (-1)) 1 (-1)) 2 (-1)) 3 (-1)) 4 (-1)) 5 (-1)))), (x9 2, .inl (cA 0, 360, .inl (fun _ => 0))), (x9 3, .inl (cA 0, 60, .inl (fun _ => 0))), (x9 4, .inl (cA 0, 4, .inl (upd (upd (upd (upd (fun _ => 0) 0 (-1)) 1 (-1)) 2 (-1)) 3 (-1)))), (x9 5, .inl (cA 1, 320, .inl (fun _ => 0))), (x9 6, .inl (cA 2, 4, .inl (fun _ => 0))), (x9 7, .inl (cA 0, 28, .inl (fun _ => 0))), (x9 8, .inl (cA 2, 4, .inl (fun _ => 0))), (x9 9, .inl (cA 0, 404, .inl (fun _ => 0))), (x9 10, .inl (cA 0, 7, .inl (fun _ => 0))), (x9 11, .inl (cA 0, 101, .inl (fun _ => 0))), (x9 12, .inl (cA 0, 6, .inl (fun _ => 0))), (x9 13, .inl (cA 0, 2, .inl (fun _ => 0))), (x9 14, .inl (cA 2, 4, .inl (fun _ => 0))), (x9 15, .inl (cA 0, 456, .inl (fun _ => 0))), (x9 16, .inl (cA 0, 400, .inl (fun _ => 0))), (x9 17, .inl (cA 0, 401, .inl (fun _ => 0))), (x9 18, .inl (cA 2, 400, .inl (fun _ => 0))), (x9 19, .inl (cA 0, 401, .inl (fun _ => 0)))]))
theorem dk_refs {D : va_G} {ws : va_W} {H : Heap} {k a n : Nat} {cc : ClassId} {f f2 : Nat → Option Nat} (h : va_P D vwCl ws H) (hk : ws[k]? = some (a, .inl (cc, n, .inr (.inr (.inr (.inr f)))))) (hf : ∀ i, i < n → f i = f2 i) : va_P D vwCl (ws.set k (a, .inl (cc, n, .inr (.inr (.inr (.inr f2)))))) H := by
  intro j q hj
  by_cases hjk : k = j
  · subst hjk
    rw [List.getElem?_set_self (List.getElem?_eq_some_iff.mp hk).1] at hj
    cases hj
    have h0 := h k _ hk
    show H[a]? = some (vp_cell _ _)
    have h1 : H[a]? = some (vp_cell cc (n, .inr (.inr (.inr (.inr f))))) := h0
    rw [h1, vp_cell_q, vp_cell_q]
    congr 1
    unfold arrV
    congr 1
    congr 1
    funext i
    show va_rf (f i.val) = va_rf (f2 i.val)
    rw [hf i.val i.isLt]
  · rw [List.getElem?_set_ne hjk] at hj
    exact h j q hj
theorem dk_c0_0 (D : va_G) (cA : Nat → ClassId) (q0 q82 : Nat) (x8 x9 : Nat → Nat) : (dk_W0 cA q0 q82 x8 x9)[0]? = some (dk_ad q0 q82 x8 x9 0, dk_cel (dk_ad q0 q82 x8 x9, D, cA) 0 (dk_S0.1 0) (dk_S0.2 0)) := rfl
theorem dk_c0_5 (D : va_G) (cA : Nat → ClassId) (q0 q82 : Nat) (x8 x9 : Nat → Nat) : (dk_W0 cA q0 q82 x8 x9)[5]? = some (dk_ad q0 q82 x8 x9 5, dk_cel (dk_ad q0 q82 x8 x9, D, cA) 5 (dk_S0.1 5) (dk_S0.2 5)) := rfl
theorem dk_c0_6 (D : va_G) (cA : Nat → ClassId) (q0 q82 : Nat) (x8 x9 : Nat → Nat) : (dk_W0 cA q0 q82 x8 x9)[6]? = some (dk_ad q0 q82 x8 x9 6, dk_cel (dk_ad q0 q82 x8 x9, D, cA) 6 (dk_S0.1 6) (dk_S0.2 6)) := rfl
theorem dk_c0_7 (D : va_G) (cA : Nat → ClassId) (q0 q82 : Nat) (x8 x9 : Nat → Nat) : (dk_W0 cA q0 q82 x8 x9)[7]? = some (dk_ad q0 q82 x8 x9 7, dk_cel (dk_ad q0 q82 x8 x9, D, cA) 7 (dk_S0.1 7) (dk_S0.2 7)) := rfl
theorem dk_c0_8 (D : va_G) (cA : Nat → ClassId) (q0 q82 : Nat) (x8 x9 : Nat → Nat) : (dk_W0 cA q0 q82 x8 x9)[8]? = some (dk_ad q0 q82 x8 x9 8, dk_cel (dk_ad q0 q82 x8 x9, D, cA) 8 (dk_S0.1 8) (dk_S0.2 8)) := rfl
theorem dk_c0_9 (D : va_G) (cA : Nat → ClassId) (q0 q82 : Nat) (x8 x9 : Nat → Nat) : (dk_W0 cA q0 q82 x8 x9)[9]? = some (dk_ad q0 q82 x8 x9 9, dk_cel (dk_ad q0 q82 x8 x9, D, cA) 9 (dk_S0.1 9) (dk_S0.2 9)) := rfl
theorem dk_c0_11 (D : va_G) (cA : Nat → ClassId) (q0 q82 : Nat) (x8 x9 : Nat → Nat) : (dk_W0 cA q0 q82 x8 x9)[11]? = some (dk_ad q0 q82 x8 x9 11, dk_cel (dk_ad q0 q82 x8 x9, D, cA) 11 (dk_S0.1 11) (dk_S0.2 11)) := rfl
theorem dk_c0_12 (D : va_G) (cA : Nat → ClassId) (q0 q82 : Nat) (x8 x9 : Nat → Nat) : (dk_W0 cA q0 q82 x8 x9)[12]? = some (dk_ad q0 q82 x8 x9 12, dk_cel (dk_ad q0 q82 x8 x9, D, cA) 12 (dk_S0.1 12) (dk_S0.2 12)) := rfl
theorem dk_c0_13 (D : va_G) (cA : Nat → ClassId) (q0 q82 : Nat) (x8 x9 : Nat → Nat) : (dk_W0 cA q0 q82 x8 x9)[13]? = some (dk_ad q0 q82 x8 x9 13, dk_cel (dk_ad q0 q82 x8 x9, D, cA) 13 (dk_S0.1 13) (dk_S0.2 13)) := rfl
theorem dk_c0_14 (D : va_G) (cA : Nat → ClassId) (q0 q82 : Nat) (x8 x9 : Nat → Nat) : (dk_W0 cA q0 q82 x8 x9)[14]? = some (dk_ad q0 q82 x8 x9 14, dk_cel (dk_ad q0 q82 x8 x9, D, cA) 14 (dk_S0.1 14) (dk_S0.2 14)) := rfl
theorem dk_c0_15 (D : va_G) (cA : Nat → ClassId) (q0 q82 : Nat) (x8 x9 : Nat → Nat) : (dk_W0 cA q0 q82 x8 x9)[15]? = some (dk_ad q0 q82 x8 x9 15, dk_cel (dk_ad q0 q82 x8 x9, D, cA) 15 (dk_S0.1 15) (dk_S0.2 15)) := rfl
theorem dk_c0_16 (D : va_G) (cA : Nat → ClassId) (q0 q82 : Nat) (x8 x9 : Nat → Nat) : (dk_W0 cA q0 q82 x8 x9)[16]? = some (dk_ad q0 q82 x8 x9 16, dk_cel (dk_ad q0 q82 x8 x9, D, cA) 16 (dk_S0.1 16) (dk_S0.2 16)) := rfl
theorem dk_c0_17 (D : va_G) (cA : Nat → ClassId) (q0 q82 : Nat) (x8 x9 : Nat → Nat) : (dk_W0 cA q0 q82 x8 x9)[17]? = some (dk_ad q0 q82 x8 x9 17, dk_cel (dk_ad q0 q82 x8 x9, D, cA) 17 (dk_S0.1 17) (dk_S0.2 17)) := rfl
theorem dk_c0_18 (D : va_G) (cA : Nat → ClassId) (q0 q82 : Nat) (x8 x9 : Nat → Nat) : (dk_W0 cA q0 q82 x8 x9)[18]? = some (dk_ad q0 q82 x8 x9 18, dk_cel (dk_ad q0 q82 x8 x9, D, cA) 18 (dk_S0.1 18) (dk_S0.2 18)) := rfl
theorem dk_c0_19 (D : va_G) (cA : Nat → ClassId) (q0 q82 : Nat) (x8 x9 : Nat → Nat) : (dk_W0 cA q0 q82 x8 x9)[19]? = some (dk_ad q0 q82 x8 x9 19, dk_cel (dk_ad q0 q82 x8 x9, D, cA) 19 (dk_S0.1 19) (dk_S0.2 19)) := rfl
theorem dk_c0_20 (D : va_G) (cA : Nat → ClassId) (q0 q82 : Nat) (x8 x9 : Nat → Nat) : (dk_W0 cA q0 q82 x8 x9)[20]? = some (dk_ad q0 q82 x8 x9 20, dk_cel (dk_ad q0 q82 x8 x9, D, cA) 20 (dk_S0.1 20) (dk_S0.2 20)) := rfl
theorem dk_c0_21 (D : va_G) (cA : Nat → ClassId) (q0 q82 : Nat) (x8 x9 : Nat → Nat) : (dk_W0 cA q0 q82 x8 x9)[21]? = some (dk_ad q0 q82 x8 x9 21, dk_cel (dk_ad q0 q82 x8 x9, D, cA) 21 (dk_S0.1 21) (dk_S0.2 21)) := rfl
theorem dk_c0_22 (D : va_G) (cA : Nat → ClassId) (q0 q82 : Nat) (x8 x9 : Nat → Nat) : (dk_W0 cA q0 q82 x8 x9)[22]? = some (dk_ad q0 q82 x8 x9 22, dk_cel (dk_ad q0 q82 x8 x9, D, cA) 22 (dk_S0.1 22) (dk_S0.2 22)) := rfl
theorem dk_c0_23 (D : va_G) (cA : Nat → ClassId) (q0 q82 : Nat) (x8 x9 : Nat → Nat) : (dk_W0 cA q0 q82 x8 x9)[23]? = some (dk_ad q0 q82 x8 x9 23, dk_cel (dk_ad q0 q82 x8 x9, D, cA) 23 (dk_S0.1 23) (dk_S0.2 23)) := rfl
theorem dk_c0_24 (D : va_G) (cA : Nat → ClassId) (q0 q82 : Nat) (x8 x9 : Nat → Nat) : (dk_W0 cA q0 q82 x8 x9)[24]? = some (dk_ad q0 q82 x8 x9 24, dk_cel (dk_ad q0 q82 x8 x9, D, cA) 24 (dk_S0.1 24) (dk_S0.2 24)) := rfl
theorem dk_c0_25 (D : va_G) (cA : Nat → ClassId) (q0 q82 : Nat) (x8 x9 : Nat → Nat) : (dk_W0 cA q0 q82 x8 x9)[25]? = some (dk_ad q0 q82 x8 x9 25, dk_cel (dk_ad q0 q82 x8 x9, D, cA) 25 (dk_S0.1 25) (dk_S0.2 25)) := rfl
theorem dk_c0_26 (D : va_G) (cA : Nat → ClassId) (q0 q82 : Nat) (x8 x9 : Nat → Nat) : (dk_W0 cA q0 q82 x8 x9)[26]? = some (dk_ad q0 q82 x8 x9 26, dk_cel (dk_ad q0 q82 x8 x9, D, cA) 26 (dk_S0.1 26) (dk_S0.2 26)) := rfl
theorem dk_c0_27 (D : va_G) (cA : Nat → ClassId) (q0 q82 : Nat) (x8 x9 : Nat → Nat) : (dk_W0 cA q0 q82 x8 x9)[27]? = some (dk_ad q0 q82 x8 x9 27, dk_cel (dk_ad q0 q82 x8 x9, D, cA) 27 (dk_S0.1 27) (dk_S0.2 27)) := rfl
theorem dk_c0_28 (D : va_G) (cA : Nat → ClassId) (q0 q82 : Nat) (x8 x9 : Nat → Nat) : (dk_W0 cA q0 q82 x8 x9)[28]? = some (dk_ad q0 q82 x8 x9 28, dk_cel (dk_ad q0 q82 x8 x9, D, cA) 28 (dk_S0.1 28) (dk_S0.2 28)) := rfl
theorem dk_c0_29 (D : va_G) (cA : Nat → ClassId) (q0 q82 : Nat) (x8 x9 : Nat → Nat) : (dk_W0 cA q0 q82 x8 x9)[29]? = some (dk_ad q0 q82 x8 x9 29, dk_cel (dk_ad q0 q82 x8 x9, D, cA) 29 (dk_S0.1 29) (dk_S0.2 29)) := rfl
theorem dk_c0_30 (D : va_G) (cA : Nat → ClassId) (q0 q82 : Nat) (x8 x9 : Nat → Nat) : (dk_W0 cA q0 q82 x8 x9)[30]? = some (dk_ad q0 q82 x8 x9 30, dk_cel (dk_ad q0 q82 x8 x9, D, cA) 30 (dk_S0.1 30) (dk_S0.2 30)) := rfl
theorem dk_c0_31 (D : va_G) (cA : Nat → ClassId) (q0 q82 : Nat) (x8 x9 : Nat → Nat) : (dk_W0 cA q0 q82 x8 x9)[31]? = some (dk_ad q0 q82 x8 x9 31, dk_cel (dk_ad q0 q82 x8 x9, D, cA) 31 (dk_S0.1 31) (dk_S0.2 31)) := rfl
theorem dk_c0_32 (D : va_G) (cA : Nat → ClassId) (q0 q82 : Nat) (x8 x9 : Nat → Nat) : (dk_W0 cA q0 q82 x8 x9)[32]? = some (dk_ad q0 q82 x8 x9 32, dk_cel (dk_ad q0 q82 x8 x9, D, cA) 32 (dk_S0.1 32) (dk_S0.2 32)) := rfl
theorem dk_c0_33 (D : va_G) (cA : Nat → ClassId) (q0 q82 : Nat) (x8 x9 : Nat → Nat) : (dk_W0 cA q0 q82 x8 x9)[33]? = some (dk_ad q0 q82 x8 x9 33, dk_cel (dk_ad q0 q82 x8 x9, D, cA) 33 (dk_S0.1 33) (dk_S0.2 33)) := rfl
theorem dk_c0_34 (D : va_G) (cA : Nat → ClassId) (q0 q82 : Nat) (x8 x9 : Nat → Nat) : (dk_W0 cA q0 q82 x8 x9)[34]? = some (dk_ad q0 q82 x8 x9 34, dk_cel (dk_ad q0 q82 x8 x9, D, cA) 34 (dk_S0.1 34) (dk_S0.2 34)) := rfl
theorem dk_c0_35 (D : va_G) (cA : Nat → ClassId) (q0 q82 : Nat) (x8 x9 : Nat → Nat) : (dk_W0 cA q0 q82 x8 x9)[35]? = some (dk_ad q0 q82 x8 x9 35, dk_cel (dk_ad q0 q82 x8 x9, D, cA) 35 (dk_S0.1 35) (dk_S0.2 35)) := rfl
theorem dk_c0_36 (D : va_G) (cA : Nat → ClassId) (q0 q82 : Nat) (x8 x9 : Nat → Nat) : (dk_W0 cA q0 q82 x8 x9)[36]? = some (dk_ad q0 q82 x8 x9 36, dk_cel (dk_ad q0 q82 x8 x9, D, cA) 36 (dk_S0.1 36) (dk_S0.2 36)) := rfl
theorem dk_c0_37 (D : va_G) (cA : Nat → ClassId) (q0 q82 : Nat) (x8 x9 : Nat → Nat) : (dk_W0 cA q0 q82 x8 x9)[37]? = some (dk_ad q0 q82 x8 x9 37, dk_cel (dk_ad q0 q82 x8 x9, D, cA) 37 (dk_S0.1 37) (dk_S0.2 37)) := rfl
theorem dk_c0_38 (D : va_G) (cA : Nat → ClassId) (q0 q82 : Nat) (x8 x9 : Nat → Nat) : (dk_W0 cA q0 q82 x8 x9)[38]? = some (dk_ad q0 q82 x8 x9 38, dk_cel (dk_ad q0 q82 x8 x9, D, cA) 38 (dk_S0.1 38) (dk_S0.2 38)) := rfl
theorem dk_c0_39 (D : va_G) (cA : Nat → ClassId) (q0 q82 : Nat) (x8 x9 : Nat → Nat) : (dk_W0 cA q0 q82 x8 x9)[39]? = some (dk_ad q0 q82 x8 x9 39, dk_cel (dk_ad q0 q82 x8 x9, D, cA) 39 (dk_S0.1 39) (dk_S0.2 39)) := rfl
theorem dk_c0_40 (D : va_G) (cA : Nat → ClassId) (q0 q82 : Nat) (x8 x9 : Nat → Nat) : (dk_W0 cA q0 q82 x8 x9)[40]? = some (dk_ad q0 q82 x8 x9 40, dk_cel (dk_ad q0 q82 x8 x9, D, cA) 40 (dk_S0.1 40) (dk_S0.2 40)) := rfl
theorem dk_c0_41 (D : va_G) (cA : Nat → ClassId) (q0 q82 : Nat) (x8 x9 : Nat → Nat) : (dk_W0 cA q0 q82 x8 x9)[41]? = some (dk_ad q0 q82 x8 x9 41, dk_cel (dk_ad q0 q82 x8 x9, D, cA) 41 (dk_S0.1 41) (dk_S0.2 41)) := rfl
theorem dk_c0_42 (D : va_G) (cA : Nat → ClassId) (q0 q82 : Nat) (x8 x9 : Nat → Nat) : (dk_W0 cA q0 q82 x8 x9)[42]? = some (dk_ad q0 q82 x8 x9 42, dk_cel (dk_ad q0 q82 x8 x9, D, cA) 42 (dk_S0.1 42) (dk_S0.2 42)) := rfl
theorem dk_c0_43 (D : va_G) (cA : Nat → ClassId) (q0 q82 : Nat) (x8 x9 : Nat → Nat) : (dk_W0 cA q0 q82 x8 x9)[43]? = some (dk_ad q0 q82 x8 x9 43, dk_cel (dk_ad q0 q82 x8 x9, D, cA) 43 (dk_S0.1 43) (dk_S0.2 43)) := rfl
theorem dk_c0_44 (D : va_G) (cA : Nat → ClassId) (q0 q82 : Nat) (x8 x9 : Nat → Nat) : (dk_W0 cA q0 q82 x8 x9)[44]? = some (dk_ad q0 q82 x8 x9 44, dk_cel (dk_ad q0 q82 x8 x9, D, cA) 44 (dk_S0.1 44) (dk_S0.2 44)) := rfl
theorem dk_c0_45 (D : va_G) (cA : Nat → ClassId) (q0 q82 : Nat) (x8 x9 : Nat → Nat) : (dk_W0 cA q0 q82 x8 x9)[45]? = some (dk_ad q0 q82 x8 x9 45, dk_cel (dk_ad q0 q82 x8 x9, D, cA) 45 (dk_S0.1 45) (dk_S0.2 45)) := rfl
theorem dk_c0_46 (D : va_G) (cA : Nat → ClassId) (q0 q82 : Nat) (x8 x9 : Nat → Nat) : (dk_W0 cA q0 q82 x8 x9)[46]? = some (dk_ad q0 q82 x8 x9 46, dk_cel (dk_ad q0 q82 x8 x9, D, cA) 46 (dk_S0.1 46) (dk_S0.2 46)) := rfl
theorem dk_c0_47 (D : va_G) (cA : Nat → ClassId) (q0 q82 : Nat) (x8 x9 : Nat → Nat) : (dk_W0 cA q0 q82 x8 x9)[47]? = some (dk_ad q0 q82 x8 x9 47, dk_cel (dk_ad q0 q82 x8 x9, D, cA) 47 (dk_S0.1 47) (dk_S0.2 47)) := rfl
theorem dk_c0_48 (D : va_G) (cA : Nat → ClassId) (q0 q82 : Nat) (x8 x9 : Nat → Nat) : (dk_W0 cA q0 q82 x8 x9)[48]? = some (dk_ad q0 q82 x8 x9 48, dk_cel (dk_ad q0 q82 x8 x9, D, cA) 48 (dk_S0.1 48) (dk_S0.2 48)) := rfl
theorem dk_c0_49 (D : va_G) (cA : Nat → ClassId) (q0 q82 : Nat) (x8 x9 : Nat → Nat) : (dk_W0 cA q0 q82 x8 x9)[49]? = some (dk_ad q0 q82 x8 x9 49, dk_cel (dk_ad q0 q82 x8 x9, D, cA) 49 (dk_S0.1 49) (dk_S0.2 49)) := rfl
theorem dk_c0_50 (D : va_G) (cA : Nat → ClassId) (q0 q82 : Nat) (x8 x9 : Nat → Nat) : (dk_W0 cA q0 q82 x8 x9)[50]? = some (dk_ad q0 q82 x8 x9 50, dk_cel (dk_ad q0 q82 x8 x9, D, cA) 50 (dk_S0.1 50) (dk_S0.2 50)) := rfl
theorem dk_c0_51 (D : va_G) (cA : Nat → ClassId) (q0 q82 : Nat) (x8 x9 : Nat → Nat) : (dk_W0 cA q0 q82 x8 x9)[51]? = some (dk_ad q0 q82 x8 x9 51, dk_cel (dk_ad q0 q82 x8 x9, D, cA) 51 (dk_S0.1 51) (dk_S0.2 51)) := rfl
theorem dk_c0_52 (D : va_G) (cA : Nat → ClassId) (q0 q82 : Nat) (x8 x9 : Nat → Nat) : (dk_W0 cA q0 q82 x8 x9)[52]? = some (dk_ad q0 q82 x8 x9 52, dk_cel (dk_ad q0 q82 x8 x9, D, cA) 52 (dk_S0.1 52) (dk_S0.2 52)) := rfl
theorem dk_c0_53 (D : va_G) (cA : Nat → ClassId) (q0 q82 : Nat) (x8 x9 : Nat → Nat) : (dk_W0 cA q0 q82 x8 x9)[53]? = some (dk_ad q0 q82 x8 x9 53, dk_cel (dk_ad q0 q82 x8 x9, D, cA) 53 (dk_S0.1 53) (dk_S0.2 53)) := rfl
theorem dk_c0_54 (D : va_G) (cA : Nat → ClassId) (q0 q82 : Nat) (x8 x9 : Nat → Nat) : (dk_W0 cA q0 q82 x8 x9)[54]? = some (dk_ad q0 q82 x8 x9 54, dk_cel (dk_ad q0 q82 x8 x9, D, cA) 54 (dk_S0.1 54) (dk_S0.2 54)) := rfl
theorem dk_c0_55 (D : va_G) (cA : Nat → ClassId) (q0 q82 : Nat) (x8 x9 : Nat → Nat) : (dk_W0 cA q0 q82 x8 x9)[55]? = some (dk_ad q0 q82 x8 x9 55, dk_cel (dk_ad q0 q82 x8 x9, D, cA) 55 (dk_S0.1 55) (dk_S0.2 55)) := rfl
theorem dk_c0_56 (D : va_G) (cA : Nat → ClassId) (q0 q82 : Nat) (x8 x9 : Nat → Nat) : (dk_W0 cA q0 q82 x8 x9)[56]? = some (dk_ad q0 q82 x8 x9 56, dk_cel (dk_ad q0 q82 x8 x9, D, cA) 56 (dk_S0.1 56) (dk_S0.2 56)) := rfl
theorem dk_c0_57 (D : va_G) (cA : Nat → ClassId) (q0 q82 : Nat) (x8 x9 : Nat → Nat) : (dk_W0 cA q0 q82 x8 x9)[57]? = some (dk_ad q0 q82 x8 x9 57, dk_cel (dk_ad q0 q82 x8 x9, D, cA) 57 (dk_S0.1 57) (dk_S0.2 57)) := rfl
theorem dk_c0_58 (D : va_G) (cA : Nat → ClassId) (q0 q82 : Nat) (x8 x9 : Nat → Nat) : (dk_W0 cA q0 q82 x8 x9)[58]? = some (dk_ad q0 q82 x8 x9 58, dk_cel (dk_ad q0 q82 x8 x9, D, cA) 58 (dk_S0.1 58) (dk_S0.2 58)) := rfl
theorem dk_c0_59 (D : va_G) (cA : Nat → ClassId) (q0 q82 : Nat) (x8 x9 : Nat → Nat) : (dk_W0 cA q0 q82 x8 x9)[59]? = some (dk_ad q0 q82 x8 x9 59, dk_cel (dk_ad q0 q82 x8 x9, D, cA) 59 (dk_S0.1 59) (dk_S0.2 59)) := rfl
theorem dk_c0_60 (D : va_G) (cA : Nat → ClassId) (q0 q82 : Nat) (x8 x9 : Nat → Nat) : (dk_W0 cA q0 q82 x8 x9)[60]? = some (dk_ad q0 q82 x8 x9 60, dk_cel (dk_ad q0 q82 x8 x9, D, cA) 60 (dk_S0.1 60) (dk_S0.2 60)) := rfl
theorem dk_c0_61 (D : va_G) (cA : Nat → ClassId) (q0 q82 : Nat) (x8 x9 : Nat → Nat) : (dk_W0 cA q0 q82 x8 x9)[61]? = some (dk_ad q0 q82 x8 x9 61, dk_cel (dk_ad q0 q82 x8 x9, D, cA) 61 (dk_S0.1 61) (dk_S0.2 61)) := rfl
theorem dk_c0_62 (D : va_G) (cA : Nat → ClassId) (q0 q82 : Nat) (x8 x9 : Nat → Nat) : (dk_W0 cA q0 q82 x8 x9)[62]? = some (dk_ad q0 q82 x8 x9 62, dk_cel (dk_ad q0 q82 x8 x9, D, cA) 62 (dk_S0.1 62) (dk_S0.2 62)) := rfl
theorem dk_c0_63 (D : va_G) (cA : Nat → ClassId) (q0 q82 : Nat) (x8 x9 : Nat → Nat) : (dk_W0 cA q0 q82 x8 x9)[63]? = some (dk_ad q0 q82 x8 x9 63, dk_cel (dk_ad q0 q82 x8 x9, D, cA) 63 (dk_S0.1 63) (dk_S0.2 63)) := rfl
theorem dk_c0_64 (D : va_G) (cA : Nat → ClassId) (q0 q82 : Nat) (x8 x9 : Nat → Nat) : (dk_W0 cA q0 q82 x8 x9)[64]? = some (dk_ad q0 q82 x8 x9 64, dk_cel (dk_ad q0 q82 x8 x9, D, cA) 64 (dk_S0.1 64) (dk_S0.2 64)) := rfl
theorem dk_c0_65 (D : va_G) (cA : Nat → ClassId) (q0 q82 : Nat) (x8 x9 : Nat → Nat) : (dk_W0 cA q0 q82 x8 x9)[65]? = some (dk_ad q0 q82 x8 x9 65, dk_cel (dk_ad q0 q82 x8 x9, D, cA) 65 (dk_S0.1 65) (dk_S0.2 65)) := rfl
theorem dk_c0_66 (D : va_G) (cA : Nat → ClassId) (q0 q82 : Nat) (x8 x9 : Nat → Nat) : (dk_W0 cA q0 q82 x8 x9)[66]? = some (dk_ad q0 q82 x8 x9 66, dk_cel (dk_ad q0 q82 x8 x9, D, cA) 66 (dk_S0.1 66) (dk_S0.2 66)) := rfl
theorem dk_c0_67 (D : va_G) (cA : Nat → ClassId) (q0 q82 : Nat) (x8 x9 : Nat → Nat) : (dk_W0 cA q0 q82 x8 x9)[67]? = some (dk_ad q0 q82 x8 x9 67, dk_cel (dk_ad q0 q82 x8 x9, D, cA) 67 (dk_S0.1 67) (dk_S0.2 67)) := rfl
theorem dk_c0_68 (D : va_G) (cA : Nat → ClassId) (q0 q82 : Nat) (x8 x9 : Nat → Nat) : (dk_W0 cA q0 q82 x8 x9)[68]? = some (dk_ad q0 q82 x8 x9 68, dk_cel (dk_ad q0 q82 x8 x9, D, cA) 68 (dk_S0.1 68) (dk_S0.2 68)) := rfl
theorem dk_c0_69 (D : va_G) (cA : Nat → ClassId) (q0 q82 : Nat) (x8 x9 : Nat → Nat) : (dk_W0 cA q0 q82 x8 x9)[69]? = some (dk_ad q0 q82 x8 x9 69, dk_cel (dk_ad q0 q82 x8 x9, D, cA) 69 (dk_S0.1 69) (dk_S0.2 69)) := rfl
theorem dk_c0_70 (D : va_G) (cA : Nat → ClassId) (q0 q82 : Nat) (x8 x9 : Nat → Nat) : (dk_W0 cA q0 q82 x8 x9)[70]? = some (dk_ad q0 q82 x8 x9 70, dk_cel (dk_ad q0 q82 x8 x9, D, cA) 70 (dk_S0.1 70) (dk_S0.2 70)) := rfl
theorem dk_c0_71 (D : va_G) (cA : Nat → ClassId) (q0 q82 : Nat) (x8 x9 : Nat → Nat) : (dk_W0 cA q0 q82 x8 x9)[71]? = some (dk_ad q0 q82 x8 x9 71, dk_cel (dk_ad q0 q82 x8 x9, D, cA) 71 (dk_S0.1 71) (dk_S0.2 71)) := rfl
theorem dk_c0_72 (D : va_G) (cA : Nat → ClassId) (q0 q82 : Nat) (x8 x9 : Nat → Nat) : (dk_W0 cA q0 q82 x8 x9)[72]? = some (dk_ad q0 q82 x8 x9 72, dk_cel (dk_ad q0 q82 x8 x9, D, cA) 72 (dk_S0.1 72) (dk_S0.2 72)) := rfl
theorem dk_c0_73 (D : va_G) (cA : Nat → ClassId) (q0 q82 : Nat) (x8 x9 : Nat → Nat) : (dk_W0 cA q0 q82 x8 x9)[73]? = some (dk_ad q0 q82 x8 x9 73, dk_cel (dk_ad q0 q82 x8 x9, D, cA) 73 (dk_S0.1 73) (dk_S0.2 73)) := rfl
theorem dk_c0_74 (D : va_G) (cA : Nat → ClassId) (q0 q82 : Nat) (x8 x9 : Nat → Nat) : (dk_W0 cA q0 q82 x8 x9)[74]? = some (dk_ad q0 q82 x8 x9 74, dk_cel (dk_ad q0 q82 x8 x9, D, cA) 74 (dk_S0.1 74) (dk_S0.2 74)) := rfl
theorem dk_c0_75 (D : va_G) (cA : Nat → ClassId) (q0 q82 : Nat) (x8 x9 : Nat → Nat) : (dk_W0 cA q0 q82 x8 x9)[75]? = some (dk_ad q0 q82 x8 x9 75, dk_cel (dk_ad q0 q82 x8 x9, D, cA) 75 (dk_S0.1 75) (dk_S0.2 75)) := rfl
theorem dk_c0_76 (D : va_G) (cA : Nat → ClassId) (q0 q82 : Nat) (x8 x9 : Nat → Nat) : (dk_W0 cA q0 q82 x8 x9)[76]? = some (dk_ad q0 q82 x8 x9 76, dk_cel (dk_ad q0 q82 x8 x9, D, cA) 76 (dk_S0.1 76) (dk_S0.2 76)) := rfl
theorem dk_c0_77 (D : va_G) (cA : Nat → ClassId) (q0 q82 : Nat) (x8 x9 : Nat → Nat) : (dk_W0 cA q0 q82 x8 x9)[77]? = some (dk_ad q0 q82 x8 x9 77, dk_cel (dk_ad q0 q82 x8 x9, D, cA) 77 (dk_S0.1 77) (dk_S0.2 77)) := rfl
theorem dk_c0_78 (D : va_G) (cA : Nat → ClassId) (q0 q82 : Nat) (x8 x9 : Nat → Nat) : (dk_W0 cA q0 q82 x8 x9)[78]? = some (dk_ad q0 q82 x8 x9 78, dk_cel (dk_ad q0 q82 x8 x9, D, cA) 78 (dk_S0.1 78) (dk_S0.2 78)) := rfl
theorem dk_c0_79 (D : va_G) (cA : Nat → ClassId) (q0 q82 : Nat) (x8 x9 : Nat → Nat) : (dk_W0 cA q0 q82 x8 x9)[79]? = some (dk_ad q0 q82 x8 x9 79, dk_cel (dk_ad q0 q82 x8 x9, D, cA) 79 (dk_S0.1 79) (dk_S0.2 79)) := rfl
theorem dk_c0_80 (D : va_G) (cA : Nat → ClassId) (q0 q82 : Nat) (x8 x9 : Nat → Nat) : (dk_W0 cA q0 q82 x8 x9)[80]? = some (dk_ad q0 q82 x8 x9 80, dk_cel (dk_ad q0 q82 x8 x9, D, cA) 80 (dk_S0.1 80) (dk_S0.2 80)) := rfl
theorem dk_c0_81 (D : va_G) (cA : Nat → ClassId) (q0 q82 : Nat) (x8 x9 : Nat → Nat) : (dk_W0 cA q0 q82 x8 x9)[81]? = some (dk_ad q0 q82 x8 x9 81, dk_cel (dk_ad q0 q82 x8 x9, D, cA) 81 (dk_S0.1 81) (dk_S0.2 81)) := rfl
theorem dk_f82 (D : va_G) (cA : Nat → ClassId) (q0 q82 : Nat) (x8 x9 : Nat → Nat) : dk_fs (dk_ad q0 q82 x8 x9, D, cA) 82 (dk_S0.1 82) (dk_S0.2 82) (dk_fl 9) = [.int 0, .ref (x9 0), .int 0, .long 0, .long 1, .ref (x9 1), .ref (x9 2), .ref (x9 3), .ref (x9 4), .ref (x9 5), .ref (x9 6), .ref (x9 7), .ref (x9 8), .ref (x9 9), .int 0, .int 0, .int 0, .ref (x9 10), .ref (x9 11), .ref (x9 12), .int 0, .int 0, .ref (x9 13), .int 0, .int 0, .int 0, .int 0, .int 0, .int 0, .int 0, .ref (x9 14), .ref (x9 15), .ref (x9 16), .ref (x9 17), .int 0, .int 0, .int 0, .int 0, .ref (x9 18), .ref (x9 19), .long 0] := by
  apply List.ext_getElem?
  intro j
  by_cases hj : j < 41
  · rcases (show j = 0 ∨ j = 1 ∨ j = 2 ∨ j = 3 ∨ j = 4 ∨ j = 5 ∨ j = 6 ∨ j = 7 ∨ j = 8 ∨ j = 9 ∨ j = 10 ∨ j = 11 ∨ j = 12 ∨ j = 13 ∨ j = 14 ∨ j = 15 ∨ j = 16 ∨ j = 17 ∨ j = 18 ∨ j = 19 ∨ j = 20 ∨ j = 21 ∨ j = 22 ∨ j = 23 ∨ j = 24 ∨ j = 25 ∨ j = 26 ∨ j = 27 ∨ j = 28 ∨ j = 29 ∨ j = 30 ∨ j = 31 ∨ j = 32 ∨ j = 33 ∨ j = 34 ∨ j = 35 ∨ j = 36 ∨ j = 37 ∨ j = 38 ∨ j = 39 ∨ j = 40 by omega) with rfl | rfl | rfl | rfl | rfl | rfl | rfl | rfl | rfl | rfl | rfl | rfl | rfl | rfl | rfl | rfl | rfl | rfl | rfl | rfl | rfl | rfl | rfl | rfl | rfl | rfl | rfl | rfl | rfl | rfl | rfl | rfl | rfl | rfl | rfl | rfl | rfl | rfl | rfl | rfl | rfl
    · rw [dk_fs_get (t := 0) rfl]; rfl
    · rw [dk_fs_get (t := 3) rfl]; rfl
    · rw [dk_fs_get (t := 0) rfl]; rfl
    · rw [dk_fs_get (t := 1) rfl]; rfl
    · rw [dk_fs_get (t := 1) rfl]; rfl
    · rw [dk_fs_get (t := 4) rfl]; rfl
    · rw [dk_fs_get (t := 5) rfl]; rfl
    · rw [dk_fs_get (t := 6) rfl]; rfl
    · rw [dk_fs_get (t := 7) rfl]; rfl
    · rw [dk_fs_get (t := 8) rfl]; rfl
    · rw [dk_fs_get (t := 9) rfl]; rfl
    · rw [dk_fs_get (t := 10) rfl]; rfl
    · rw [dk_fs_get (t := 11) rfl]; rfl
    · rw [dk_fs_get (t := 12) rfl]; rfl
    · rw [dk_fs_get (t := 0) rfl]; rfl
    · rw [dk_fs_get (t := 0) rfl]; rfl
    · rw [dk_fs_get (t := 0) rfl]; rfl
    · rw [dk_fs_get (t := 13) rfl]; rfl
    · rw [dk_fs_get (t := 14) rfl]; rfl
    · rw [dk_fs_get (t := 15) rfl]; rfl
    · rw [dk_fs_get (t := 0) rfl]; rfl
    · rw [dk_fs_get (t := 0) rfl]; rfl
    · rw [dk_fs_get (t := 16) rfl]; rfl
    · rw [dk_fs_get (t := 0) rfl]; rfl
    · rw [dk_fs_get (t := 0) rfl]; rfl
    · rw [dk_fs_get (t := 0) rfl]; rfl
    · rw [dk_fs_get (t := 0) rfl]; rfl
    · rw [dk_fs_get (t := 0) rfl]; rfl
    · rw [dk_fs_get (t := 0) rfl]; rfl
    · rw [dk_fs_get (t := 0) rfl]; rfl
    · rw [dk_fs_get (t := 17) rfl]; rfl
    · rw [dk_fs_get (t := 18) rfl]; rfl
    · rw [dk_fs_get (t := 19) rfl]; rfl
    · rw [dk_fs_get (t := 20) rfl]; rfl
    · rw [dk_fs_get (t := 0) rfl]; rfl
    · rw [dk_fs_get (t := 0) rfl]; rfl
    · rw [dk_fs_get (t := 0) rfl]; rfl
    · rw [dk_fs_get (t := 0) rfl]; rfl
    · rw [dk_fs_get (t := 21) rfl]; rfl
    · rw [dk_fs_get (t := 22) rfl]; rfl
    · rw [dk_fs_get (t := 1) rfl]; rfl
  · rw [List.getElem?_eq_none (by rw [dk_fs_len]; exact Nat.not_lt.mp hj), List.getElem?_eq_none (Nat.not_lt.mp hj)]
theorem dk_c0_82 (D : va_G) (cA : Nat → ClassId) (q0 q82 : Nat) (x8 x9 : Nat → Nat) : (dk_W0 cA q0 q82 x8 x9)[82]? = some (dk_ad q0 q82 x8 x9 82, dk_cel (dk_ad q0 q82 x8 x9, D, cA) 82 (dk_S0.1 82) (dk_S0.2 82)) := by
  have h : dk_cel (dk_ad q0 q82 x8 x9, D, cA) 82 (dk_S0.1 82) (dk_S0.2 82) = .inr (9, [.int 0, .ref (x9 0), .int 0, .long 0, .long 1, .ref (x9 1), .ref (x9 2), .ref (x9 3), .ref (x9 4), .ref (x9 5), .ref (x9 6), .ref (x9 7), .ref (x9 8), .ref (x9 9), .int 0, .int 0, .int 0, .ref (x9 10), .ref (x9 11), .ref (x9 12), .int 0, .int 0, .ref (x9 13), .int 0, .int 0, .int 0, .int 0, .int 0, .int 0, .int 0, .ref (x9 14), .ref (x9 15), .ref (x9 16), .ref (x9 17), .int 0, .int 0, .int 0, .int 0, .ref (x9 18), .ref (x9 19), .long 0]) := by
    unfold dk_cel dk_ce
    rw [dz_82, if_pos (by decide), dk_f82]
  rw [h]
  rfl
theorem dk_c0_83 (D : va_G) (cA : Nat → ClassId) (q0 q82 : Nat) (x8 x9 : Nat → Nat) : (dk_W0 cA q0 q82 x8 x9)[83]? = some (dk_ad q0 q82 x8 x9 83, dk_cel (dk_ad q0 q82 x8 x9, D, cA) 83 (dk_S0.1 83) (dk_S0.2 83)) := rfl
theorem dk_c0_84 (D : va_G) (cA : Nat → ClassId) (q0 q82 : Nat) (x8 x9 : Nat → Nat) : (dk_W0 cA q0 q82 x8 x9)[84]? = some (dk_ad q0 q82 x8 x9 84, dk_cel (dk_ad q0 q82 x8 x9, D, cA) 84 (dk_S0.1 84) (dk_S0.2 84)) := rfl
theorem dk_c0_85 (D : va_G) (cA : Nat → ClassId) (q0 q82 : Nat) (x8 x9 : Nat → Nat) : (dk_W0 cA q0 q82 x8 x9)[85]? = some (dk_ad q0 q82 x8 x9 85, dk_cel (dk_ad q0 q82 x8 x9, D, cA) 85 (dk_S0.1 85) (dk_S0.2 85)) := rfl
theorem dk_c0_86 (D : va_G) (cA : Nat → ClassId) (q0 q82 : Nat) (x8 x9 : Nat → Nat) : (dk_W0 cA q0 q82 x8 x9)[86]? = some (dk_ad q0 q82 x8 x9 86, dk_cel (dk_ad q0 q82 x8 x9, D, cA) 86 (dk_S0.1 86) (dk_S0.2 86)) := rfl
theorem dk_c0_87 (D : va_G) (cA : Nat → ClassId) (q0 q82 : Nat) (x8 x9 : Nat → Nat) : (dk_W0 cA q0 q82 x8 x9)[87]? = some (dk_ad q0 q82 x8 x9 87, dk_cel (dk_ad q0 q82 x8 x9, D, cA) 87 (dk_S0.1 87) (dk_S0.2 87)) := rfl
theorem dk_c0_88 (D : va_G) (cA : Nat → ClassId) (q0 q82 : Nat) (x8 x9 : Nat → Nat) : (dk_W0 cA q0 q82 x8 x9)[88]? = some (dk_ad q0 q82 x8 x9 88, dk_cel (dk_ad q0 q82 x8 x9, D, cA) 88 (dk_S0.1 88) (dk_S0.2 88)) := rfl
theorem dk_c0_89 (D : va_G) (cA : Nat → ClassId) (q0 q82 : Nat) (x8 x9 : Nat → Nat) : (dk_W0 cA q0 q82 x8 x9)[89]? = some (dk_ad q0 q82 x8 x9 89, dk_cel (dk_ad q0 q82 x8 x9, D, cA) 89 (dk_S0.1 89) (dk_S0.2 89)) := rfl
theorem dk_c0_90 (D : va_G) (cA : Nat → ClassId) (q0 q82 : Nat) (x8 x9 : Nat → Nat) : (dk_W0 cA q0 q82 x8 x9)[90]? = some (dk_ad q0 q82 x8 x9 90, dk_cel (dk_ad q0 q82 x8 x9, D, cA) 90 (dk_S0.1 90) (dk_S0.2 90)) := rfl
theorem dk_c0_91 (D : va_G) (cA : Nat → ClassId) (q0 q82 : Nat) (x8 x9 : Nat → Nat) : (dk_W0 cA q0 q82 x8 x9)[91]? = some (dk_ad q0 q82 x8 x9 91, dk_cel (dk_ad q0 q82 x8 x9, D, cA) 91 (dk_S0.1 91) (dk_S0.2 91)) := rfl
theorem dk_c0_92 (D : va_G) (cA : Nat → ClassId) (q0 q82 : Nat) (x8 x9 : Nat → Nat) : (dk_W0 cA q0 q82 x8 x9)[92]? = some (dk_ad q0 q82 x8 x9 92, dk_cel (dk_ad q0 q82 x8 x9, D, cA) 92 (dk_S0.1 92) (dk_S0.2 92)) := rfl
theorem dk_c0_93 (D : va_G) (cA : Nat → ClassId) (q0 q82 : Nat) (x8 x9 : Nat → Nat) : (dk_W0 cA q0 q82 x8 x9)[93]? = some (dk_ad q0 q82 x8 x9 93, dk_cel (dk_ad q0 q82 x8 x9, D, cA) 93 (dk_S0.1 93) (dk_S0.2 93)) := rfl
theorem dk_c0_94 (D : va_G) (cA : Nat → ClassId) (q0 q82 : Nat) (x8 x9 : Nat → Nat) : (dk_W0 cA q0 q82 x8 x9)[94]? = some (dk_ad q0 q82 x8 x9 94, dk_cel (dk_ad q0 q82 x8 x9, D, cA) 94 (dk_S0.1 94) (dk_S0.2 94)) := rfl
theorem dk_c0_95 (D : va_G) (cA : Nat → ClassId) (q0 q82 : Nat) (x8 x9 : Nat → Nat) : (dk_W0 cA q0 q82 x8 x9)[95]? = some (dk_ad q0 q82 x8 x9 95, dk_cel (dk_ad q0 q82 x8 x9, D, cA) 95 (dk_S0.1 95) (dk_S0.2 95)) := rfl
theorem dk_c0_96 (D : va_G) (cA : Nat → ClassId) (q0 q82 : Nat) (x8 x9 : Nat → Nat) : (dk_W0 cA q0 q82 x8 x9)[96]? = some (dk_ad q0 q82 x8 x9 96, dk_cel (dk_ad q0 q82 x8 x9, D, cA) 96 (dk_S0.1 96) (dk_S0.2 96)) := rfl
theorem dk_c0_97 (D : va_G) (cA : Nat → ClassId) (q0 q82 : Nat) (x8 x9 : Nat → Nat) : (dk_W0 cA q0 q82 x8 x9)[97]? = some (dk_ad q0 q82 x8 x9 97, dk_cel (dk_ad q0 q82 x8 x9, D, cA) 97 (dk_S0.1 97) (dk_S0.2 97)) := rfl
theorem dk_c0_98 (D : va_G) (cA : Nat → ClassId) (q0 q82 : Nat) (x8 x9 : Nat → Nat) : (dk_W0 cA q0 q82 x8 x9)[98]? = some (dk_ad q0 q82 x8 x9 98, dk_cel (dk_ad q0 q82 x8 x9, D, cA) 98 (dk_S0.1 98) (dk_S0.2 98)) := rfl
theorem dk_c0_99 (D : va_G) (cA : Nat → ClassId) (q0 q82 : Nat) (x8 x9 : Nat → Nat) : (dk_W0 cA q0 q82 x8 x9)[99]? = some (dk_ad q0 q82 x8 x9 99, dk_cel (dk_ad q0 q82 x8 x9, D, cA) 99 (dk_S0.1 99) (dk_S0.2 99)) := rfl
theorem dk_c0_100 (D : va_G) (cA : Nat → ClassId) (q0 q82 : Nat) (x8 x9 : Nat → Nat) : (dk_W0 cA q0 q82 x8 x9)[100]? = some (dk_ad q0 q82 x8 x9 100, dk_cel (dk_ad q0 q82 x8 x9, D, cA) 100 (dk_S0.1 100) (dk_S0.2 100)) := rfl
theorem dk_c0_101 (D : va_G) (cA : Nat → ClassId) (q0 q82 : Nat) (x8 x9 : Nat → Nat) : (dk_W0 cA q0 q82 x8 x9)[101]? = some (dk_ad q0 q82 x8 x9 101, dk_cel (dk_ad q0 q82 x8 x9, D, cA) 101 (dk_S0.1 101) (dk_S0.2 101)) := rfl
theorem dk_c0_102 (D : va_G) (cA : Nat → ClassId) (q0 q82 : Nat) (x8 x9 : Nat → Nat) : (dk_W0 cA q0 q82 x8 x9)[102]? = some (dk_ad q0 q82 x8 x9 102, dk_cel (dk_ad q0 q82 x8 x9, D, cA) 102 (dk_S0.1 102) (dk_S0.2 102)) := rfl
theorem dk_c0_1 (D : va_G) (cA : Nat → ClassId) (q0 q82 : Nat) (x8 x9 : Nat → Nat) : ∃ f, (dk_W0 cA q0 q82 x8 x9)[1]? = some (dk_ad q0 q82 x8 x9 1, .inl (cA 4, 6, .inr (.inr (.inr (.inr f))))) ∧ (∀ i, i < 6 → f i = dk_rfs (dk_ad q0 q82 x8 x9, D, cA) 31 2 i) := ⟨_, rfl, fun i hi => by
  rcases (show i = 0 ∨ i = 1 ∨ i = 2 ∨ i = 3 ∨ i = 4 ∨ i = 5 by omega) with rfl | rfl | rfl | rfl | rfl | rfl <;> rfl⟩
theorem dk_c0_2 (D : va_G) (cA : Nat → ClassId) (q0 q82 : Nat) (x8 x9 : Nat → Nat) : ∃ f, (dk_W0 cA q0 q82 x8 x9)[2]? = some (dk_ad q0 q82 x8 x9 2, .inl (cA 5, 4, .inr (.inr (.inr (.inr f))))) ∧ (∀ i, i < 4 → f i = dk_rfs (dk_ad q0 q82 x8 x9, D, cA) 43 2 i) := ⟨_, rfl, fun i hi => by
  rcases (show i = 0 ∨ i = 1 ∨ i = 2 ∨ i = 3 by omega) with rfl | rfl | rfl | rfl <;> rfl⟩
theorem dk_c0_3 (D : va_G) (cA : Nat → ClassId) (q0 q82 : Nat) (x8 x9 : Nat → Nat) : ∃ f, (dk_W0 cA q0 q82 x8 x9)[3]? = some (dk_ad q0 q82 x8 x9 3, .inl (cA 6, 4, .inr (.inr (.inr (.inr f))))) ∧ (∀ i, i < 4 → f i = dk_rfs (dk_ad q0 q82 x8 x9, D, cA) 51 2 i) := ⟨_, rfl, fun i hi => by
  rcases (show i = 0 ∨ i = 1 ∨ i = 2 ∨ i = 3 by omega) with rfl | rfl | rfl | rfl <;> rfl⟩
theorem dk_c0_4 (D : va_G) (cA : Nat → ClassId) (q0 q82 : Nat) (x8 x9 : Nat → Nat) : ∃ f, (dk_W0 cA q0 q82 x8 x9)[4]? = some (dk_ad q0 q82 x8 x9 4, .inl (cA 7, 4, .inr (.inr (.inr (.inr f))))) ∧ (∀ i, i < 4 → f i = dk_rfs (dk_ad q0 q82 x8 x9, D, cA) 59 2 i) := ⟨_, rfl, fun i hi => by
  rcases (show i = 0 ∨ i = 1 ∨ i = 2 ∨ i = 3 by omega) with rfl | rfl | rfl | rfl <;> rfl⟩
theorem dk_c0_10 (D : va_G) (cA : Nat → ClassId) (q0 q82 : Nat) (x8 x9 : Nat → Nat) : ∃ f, (dk_W0 cA q0 q82 x8 x9)[10]? = some (dk_ad q0 q82 x8 x9 10, .inl (cA 8, 3, .inr (.inr (.inr (.inr f))))) ∧ (∀ i, i < 3 → f i = dk_rfs (dk_ad q0 q82 x8 x9, D, cA) 67 5 i) := ⟨_, rfl, fun i hi => by
  rcases (show i = 0 ∨ i = 1 ∨ i = 2 by omega) with rfl | rfl | rfl <;> rfl⟩
theorem dk_at0 {D : va_G} {cA : Nat → ClassId} {q0 q82 : Nat} {x8 x9 : Nat → Nat} {H : Heap} (h : va_P D vwCl (dk_W0 cA q0 q82 x8 x9) H) {k a n : Nat} {cc : ClassId} {f f2 : Nat → Option Nat} (hk : (dk_W0 cA q0 q82 x8 x9)[k]? = some (a, .inl (cc, n, .inr (.inr (.inr (.inr f)))))) (hf : ∀ i, i < n → f i = f2 i) : va_at D vwCl (a, .inl (cc, n, .inr (.inr (.inr (.inr f2))))) H := by
  have h0 := dk_refs h hk hf k (a, .inl (cc, n, .inr (.inr (.inr (.inr f2))))) (List.getElem?_set_self (List.getElem?_eq_some_iff.mp hk).1)
  exact h0
theorem dk_v0_0 {D : va_G} {cA : Nat → ClassId} {q0 q82 : Nat} {x8 x9 : Nat → Nat} {H : Heap} (h : va_P D vwCl (dk_W0 cA q0 q82 x8 x9) H) : va_at D vwCl (dk_ad q0 q82 x8 x9 0, dk_cel (dk_ad q0 q82 x8 x9, D, cA) 0 (dk_S0.1 0) (dk_S0.2 0)) H := h 0 _ (dk_c0_0 D cA q0 q82 x8 x9)
theorem dk_v0_1 {D : va_G} {cA : Nat → ClassId} {q0 q82 : Nat} {x8 x9 : Nat → Nat} {H : Heap} (h : va_P D vwCl (dk_W0 cA q0 q82 x8 x9) H) : va_at D vwCl (dk_ad q0 q82 x8 x9 1, dk_cel (dk_ad q0 q82 x8 x9, D, cA) 1 (dk_S0.1 1) (dk_S0.2 1)) H := by
  obtain ⟨f, h1, h2⟩ := dk_c0_1 D cA q0 q82 x8 x9
  exact dk_at0 h h1 h2
theorem dk_v0_2 {D : va_G} {cA : Nat → ClassId} {q0 q82 : Nat} {x8 x9 : Nat → Nat} {H : Heap} (h : va_P D vwCl (dk_W0 cA q0 q82 x8 x9) H) : va_at D vwCl (dk_ad q0 q82 x8 x9 2, dk_cel (dk_ad q0 q82 x8 x9, D, cA) 2 (dk_S0.1 2) (dk_S0.2 2)) H := by
  obtain ⟨f, h1, h2⟩ := dk_c0_2 D cA q0 q82 x8 x9
  exact dk_at0 h h1 h2
theorem dk_v0_3 {D : va_G} {cA : Nat → ClassId} {q0 q82 : Nat} {x8 x9 : Nat → Nat} {H : Heap} (h : va_P D vwCl (dk_W0 cA q0 q82 x8 x9) H) : va_at D vwCl (dk_ad q0 q82 x8 x9 3, dk_cel (dk_ad q0 q82 x8 x9, D, cA) 3 (dk_S0.1 3) (dk_S0.2 3)) H := by
  obtain ⟨f, h1, h2⟩ := dk_c0_3 D cA q0 q82 x8 x9
  exact dk_at0 h h1 h2
theorem dk_v0_4 {D : va_G} {cA : Nat → ClassId} {q0 q82 : Nat} {x8 x9 : Nat → Nat} {H : Heap} (h : va_P D vwCl (dk_W0 cA q0 q82 x8 x9) H) : va_at D vwCl (dk_ad q0 q82 x8 x9 4, dk_cel (dk_ad q0 q82 x8 x9, D, cA) 4 (dk_S0.1 4) (dk_S0.2 4)) H := by
  obtain ⟨f, h1, h2⟩ := dk_c0_4 D cA q0 q82 x8 x9
  exact dk_at0 h h1 h2
theorem dk_v0_5 {D : va_G} {cA : Nat → ClassId} {q0 q82 : Nat} {x8 x9 : Nat → Nat} {H : Heap} (h : va_P D vwCl (dk_W0 cA q0 q82 x8 x9) H) : va_at D vwCl (dk_ad q0 q82 x8 x9 5, dk_cel (dk_ad q0 q82 x8 x9, D, cA) 5 (dk_S0.1 5) (dk_S0.2 5)) H := h 5 _ (dk_c0_5 D cA q0 q82 x8 x9)
theorem dk_v0_6 {D : va_G} {cA : Nat → ClassId} {q0 q82 : Nat} {x8 x9 : Nat → Nat} {H : Heap} (h : va_P D vwCl (dk_W0 cA q0 q82 x8 x9) H) : va_at D vwCl (dk_ad q0 q82 x8 x9 6, dk_cel (dk_ad q0 q82 x8 x9, D, cA) 6 (dk_S0.1 6) (dk_S0.2 6)) H := h 6 _ (dk_c0_6 D cA q0 q82 x8 x9)
theorem dk_v0_7 {D : va_G} {cA : Nat → ClassId} {q0 q82 : Nat} {x8 x9 : Nat → Nat} {H : Heap} (h : va_P D vwCl (dk_W0 cA q0 q82 x8 x9) H) : va_at D vwCl (dk_ad q0 q82 x8 x9 7, dk_cel (dk_ad q0 q82 x8 x9, D, cA) 7 (dk_S0.1 7) (dk_S0.2 7)) H := h 7 _ (dk_c0_7 D cA q0 q82 x8 x9)
theorem dk_v0_8 {D : va_G} {cA : Nat → ClassId} {q0 q82 : Nat} {x8 x9 : Nat → Nat} {H : Heap} (h : va_P D vwCl (dk_W0 cA q0 q82 x8 x9) H) : va_at D vwCl (dk_ad q0 q82 x8 x9 8, dk_cel (dk_ad q0 q82 x8 x9, D, cA) 8 (dk_S0.1 8) (dk_S0.2 8)) H := h 8 _ (dk_c0_8 D cA q0 q82 x8 x9)
theorem dk_v0_9 {D : va_G} {cA : Nat → ClassId} {q0 q82 : Nat} {x8 x9 : Nat → Nat} {H : Heap} (h : va_P D vwCl (dk_W0 cA q0 q82 x8 x9) H) : va_at D vwCl (dk_ad q0 q82 x8 x9 9, dk_cel (dk_ad q0 q82 x8 x9, D, cA) 9 (dk_S0.1 9) (dk_S0.2 9)) H := h 9 _ (dk_c0_9 D cA q0 q82 x8 x9)
theorem dk_v0_10 {D : va_G} {cA : Nat → ClassId} {q0 q82 : Nat} {x8 x9 : Nat → Nat} {H : Heap} (h : va_P D vwCl (dk_W0 cA q0 q82 x8 x9) H) : va_at D vwCl (dk_ad q0 q82 x8 x9 10, dk_cel (dk_ad q0 q82 x8 x9, D, cA) 10 (dk_S0.1 10) (dk_S0.2 10)) H := by
  obtain ⟨f, h1, h2⟩ := dk_c0_10 D cA q0 q82 x8 x9
  exact dk_at0 h h1 h2
theorem dk_v0_11 {D : va_G} {cA : Nat → ClassId} {q0 q82 : Nat} {x8 x9 : Nat → Nat} {H : Heap} (h : va_P D vwCl (dk_W0 cA q0 q82 x8 x9) H) : va_at D vwCl (dk_ad q0 q82 x8 x9 11, dk_cel (dk_ad q0 q82 x8 x9, D, cA) 11 (dk_S0.1 11) (dk_S0.2 11)) H := h 11 _ (dk_c0_11 D cA q0 q82 x8 x9)
theorem dk_v0_12 {D : va_G} {cA : Nat → ClassId} {q0 q82 : Nat} {x8 x9 : Nat → Nat} {H : Heap} (h : va_P D vwCl (dk_W0 cA q0 q82 x8 x9) H) : va_at D vwCl (dk_ad q0 q82 x8 x9 12, dk_cel (dk_ad q0 q82 x8 x9, D, cA) 12 (dk_S0.1 12) (dk_S0.2 12)) H := h 12 _ (dk_c0_12 D cA q0 q82 x8 x9)
theorem dk_v0_13 {D : va_G} {cA : Nat → ClassId} {q0 q82 : Nat} {x8 x9 : Nat → Nat} {H : Heap} (h : va_P D vwCl (dk_W0 cA q0 q82 x8 x9) H) : va_at D vwCl (dk_ad q0 q82 x8 x9 13, dk_cel (dk_ad q0 q82 x8 x9, D, cA) 13 (dk_S0.1 13) (dk_S0.2 13)) H := h 13 _ (dk_c0_13 D cA q0 q82 x8 x9)
theorem dk_v0_14 {D : va_G} {cA : Nat → ClassId} {q0 q82 : Nat} {x8 x9 : Nat → Nat} {H : Heap} (h : va_P D vwCl (dk_W0 cA q0 q82 x8 x9) H) : va_at D vwCl (dk_ad q0 q82 x8 x9 14, dk_cel (dk_ad q0 q82 x8 x9, D, cA) 14 (dk_S0.1 14) (dk_S0.2 14)) H := h 14 _ (dk_c0_14 D cA q0 q82 x8 x9)
theorem dk_v0_15 {D : va_G} {cA : Nat → ClassId} {q0 q82 : Nat} {x8 x9 : Nat → Nat} {H : Heap} (h : va_P D vwCl (dk_W0 cA q0 q82 x8 x9) H) : va_at D vwCl (dk_ad q0 q82 x8 x9 15, dk_cel (dk_ad q0 q82 x8 x9, D, cA) 15 (dk_S0.1 15) (dk_S0.2 15)) H := h 15 _ (dk_c0_15 D cA q0 q82 x8 x9)
theorem dk_v0_16 {D : va_G} {cA : Nat → ClassId} {q0 q82 : Nat} {x8 x9 : Nat → Nat} {H : Heap} (h : va_P D vwCl (dk_W0 cA q0 q82 x8 x9) H) : va_at D vwCl (dk_ad q0 q82 x8 x9 16, dk_cel (dk_ad q0 q82 x8 x9, D, cA) 16 (dk_S0.1 16) (dk_S0.2 16)) H := h 16 _ (dk_c0_16 D cA q0 q82 x8 x9)
theorem dk_v0_17 {D : va_G} {cA : Nat → ClassId} {q0 q82 : Nat} {x8 x9 : Nat → Nat} {H : Heap} (h : va_P D vwCl (dk_W0 cA q0 q82 x8 x9) H) : va_at D vwCl (dk_ad q0 q82 x8 x9 17, dk_cel (dk_ad q0 q82 x8 x9, D, cA) 17 (dk_S0.1 17) (dk_S0.2 17)) H := h 17 _ (dk_c0_17 D cA q0 q82 x8 x9)
theorem dk_v0_18 {D : va_G} {cA : Nat → ClassId} {q0 q82 : Nat} {x8 x9 : Nat → Nat} {H : Heap} (h : va_P D vwCl (dk_W0 cA q0 q82 x8 x9) H) : va_at D vwCl (dk_ad q0 q82 x8 x9 18, dk_cel (dk_ad q0 q82 x8 x9, D, cA) 18 (dk_S0.1 18) (dk_S0.2 18)) H := h 18 _ (dk_c0_18 D cA q0 q82 x8 x9)
theorem dk_v0_19 {D : va_G} {cA : Nat → ClassId} {q0 q82 : Nat} {x8 x9 : Nat → Nat} {H : Heap} (h : va_P D vwCl (dk_W0 cA q0 q82 x8 x9) H) : va_at D vwCl (dk_ad q0 q82 x8 x9 19, dk_cel (dk_ad q0 q82 x8 x9, D, cA) 19 (dk_S0.1 19) (dk_S0.2 19)) H := h 19 _ (dk_c0_19 D cA q0 q82 x8 x9)
theorem dk_v0_20 {D : va_G} {cA : Nat → ClassId} {q0 q82 : Nat} {x8 x9 : Nat → Nat} {H : Heap} (h : va_P D vwCl (dk_W0 cA q0 q82 x8 x9) H) : va_at D vwCl (dk_ad q0 q82 x8 x9 20, dk_cel (dk_ad q0 q82 x8 x9, D, cA) 20 (dk_S0.1 20) (dk_S0.2 20)) H := h 20 _ (dk_c0_20 D cA q0 q82 x8 x9)
theorem dk_v0_21 {D : va_G} {cA : Nat → ClassId} {q0 q82 : Nat} {x8 x9 : Nat → Nat} {H : Heap} (h : va_P D vwCl (dk_W0 cA q0 q82 x8 x9) H) : va_at D vwCl (dk_ad q0 q82 x8 x9 21, dk_cel (dk_ad q0 q82 x8 x9, D, cA) 21 (dk_S0.1 21) (dk_S0.2 21)) H := h 21 _ (dk_c0_21 D cA q0 q82 x8 x9)
theorem dk_v0_22 {D : va_G} {cA : Nat → ClassId} {q0 q82 : Nat} {x8 x9 : Nat → Nat} {H : Heap} (h : va_P D vwCl (dk_W0 cA q0 q82 x8 x9) H) : va_at D vwCl (dk_ad q0 q82 x8 x9 22, dk_cel (dk_ad q0 q82 x8 x9, D, cA) 22 (dk_S0.1 22) (dk_S0.2 22)) H := h 22 _ (dk_c0_22 D cA q0 q82 x8 x9)
theorem dk_v0_23 {D : va_G} {cA : Nat → ClassId} {q0 q82 : Nat} {x8 x9 : Nat → Nat} {H : Heap} (h : va_P D vwCl (dk_W0 cA q0 q82 x8 x9) H) : va_at D vwCl (dk_ad q0 q82 x8 x9 23, dk_cel (dk_ad q0 q82 x8 x9, D, cA) 23 (dk_S0.1 23) (dk_S0.2 23)) H := h 23 _ (dk_c0_23 D cA q0 q82 x8 x9)
theorem dk_v0_24 {D : va_G} {cA : Nat → ClassId} {q0 q82 : Nat} {x8 x9 : Nat → Nat} {H : Heap} (h : va_P D vwCl (dk_W0 cA q0 q82 x8 x9) H) : va_at D vwCl (dk_ad q0 q82 x8 x9 24, dk_cel (dk_ad q0 q82 x8 x9, D, cA) 24 (dk_S0.1 24) (dk_S0.2 24)) H := h 24 _ (dk_c0_24 D cA q0 q82 x8 x9)
theorem dk_v0_25 {D : va_G} {cA : Nat → ClassId} {q0 q82 : Nat} {x8 x9 : Nat → Nat} {H : Heap} (h : va_P D vwCl (dk_W0 cA q0 q82 x8 x9) H) : va_at D vwCl (dk_ad q0 q82 x8 x9 25, dk_cel (dk_ad q0 q82 x8 x9, D, cA) 25 (dk_S0.1 25) (dk_S0.2 25)) H := h 25 _ (dk_c0_25 D cA q0 q82 x8 x9)
theorem dk_v0_26 {D : va_G} {cA : Nat → ClassId} {q0 q82 : Nat} {x8 x9 : Nat → Nat} {H : Heap} (h : va_P D vwCl (dk_W0 cA q0 q82 x8 x9) H) : va_at D vwCl (dk_ad q0 q82 x8 x9 26, dk_cel (dk_ad q0 q82 x8 x9, D, cA) 26 (dk_S0.1 26) (dk_S0.2 26)) H := h 26 _ (dk_c0_26 D cA q0 q82 x8 x9)
theorem dk_v0_27 {D : va_G} {cA : Nat → ClassId} {q0 q82 : Nat} {x8 x9 : Nat → Nat} {H : Heap} (h : va_P D vwCl (dk_W0 cA q0 q82 x8 x9) H) : va_at D vwCl (dk_ad q0 q82 x8 x9 27, dk_cel (dk_ad q0 q82 x8 x9, D, cA) 27 (dk_S0.1 27) (dk_S0.2 27)) H := h 27 _ (dk_c0_27 D cA q0 q82 x8 x9)
theorem dk_v0_28 {D : va_G} {cA : Nat → ClassId} {q0 q82 : Nat} {x8 x9 : Nat → Nat} {H : Heap} (h : va_P D vwCl (dk_W0 cA q0 q82 x8 x9) H) : va_at D vwCl (dk_ad q0 q82 x8 x9 28, dk_cel (dk_ad q0 q82 x8 x9, D, cA) 28 (dk_S0.1 28) (dk_S0.2 28)) H := h 28 _ (dk_c0_28 D cA q0 q82 x8 x9)
theorem dk_v0_29 {D : va_G} {cA : Nat → ClassId} {q0 q82 : Nat} {x8 x9 : Nat → Nat} {H : Heap} (h : va_P D vwCl (dk_W0 cA q0 q82 x8 x9) H) : va_at D vwCl (dk_ad q0 q82 x8 x9 29, dk_cel (dk_ad q0 q82 x8 x9, D, cA) 29 (dk_S0.1 29) (dk_S0.2 29)) H := h 29 _ (dk_c0_29 D cA q0 q82 x8 x9)
theorem dk_v0_30 {D : va_G} {cA : Nat → ClassId} {q0 q82 : Nat} {x8 x9 : Nat → Nat} {H : Heap} (h : va_P D vwCl (dk_W0 cA q0 q82 x8 x9) H) : va_at D vwCl (dk_ad q0 q82 x8 x9 30, dk_cel (dk_ad q0 q82 x8 x9, D, cA) 30 (dk_S0.1 30) (dk_S0.2 30)) H := h 30 _ (dk_c0_30 D cA q0 q82 x8 x9)
theorem dk_v0_31 {D : va_G} {cA : Nat → ClassId} {q0 q82 : Nat} {x8 x9 : Nat → Nat} {H : Heap} (h : va_P D vwCl (dk_W0 cA q0 q82 x8 x9) H) : va_at D vwCl (dk_ad q0 q82 x8 x9 31, dk_cel (dk_ad q0 q82 x8 x9, D, cA) 31 (dk_S0.1 31) (dk_S0.2 31)) H := h 31 _ (dk_c0_31 D cA q0 q82 x8 x9)
theorem dk_v0_32 {D : va_G} {cA : Nat → ClassId} {q0 q82 : Nat} {x8 x9 : Nat → Nat} {H : Heap} (h : va_P D vwCl (dk_W0 cA q0 q82 x8 x9) H) : va_at D vwCl (dk_ad q0 q82 x8 x9 32, dk_cel (dk_ad q0 q82 x8 x9, D, cA) 32 (dk_S0.1 32) (dk_S0.2 32)) H := h 32 _ (dk_c0_32 D cA q0 q82 x8 x9)
theorem dk_v0_33 {D : va_G} {cA : Nat → ClassId} {q0 q82 : Nat} {x8 x9 : Nat → Nat} {H : Heap} (h : va_P D vwCl (dk_W0 cA q0 q82 x8 x9) H) : va_at D vwCl (dk_ad q0 q82 x8 x9 33, dk_cel (dk_ad q0 q82 x8 x9, D, cA) 33 (dk_S0.1 33) (dk_S0.2 33)) H := h 33 _ (dk_c0_33 D cA q0 q82 x8 x9)
theorem dk_v0_34 {D : va_G} {cA : Nat → ClassId} {q0 q82 : Nat} {x8 x9 : Nat → Nat} {H : Heap} (h : va_P D vwCl (dk_W0 cA q0 q82 x8 x9) H) : va_at D vwCl (dk_ad q0 q82 x8 x9 34, dk_cel (dk_ad q0 q82 x8 x9, D, cA) 34 (dk_S0.1 34) (dk_S0.2 34)) H := h 34 _ (dk_c0_34 D cA q0 q82 x8 x9)
theorem dk_v0_35 {D : va_G} {cA : Nat → ClassId} {q0 q82 : Nat} {x8 x9 : Nat → Nat} {H : Heap} (h : va_P D vwCl (dk_W0 cA q0 q82 x8 x9) H) : va_at D vwCl (dk_ad q0 q82 x8 x9 35, dk_cel (dk_ad q0 q82 x8 x9, D, cA) 35 (dk_S0.1 35) (dk_S0.2 35)) H := h 35 _ (dk_c0_35 D cA q0 q82 x8 x9)
theorem dk_v0_36 {D : va_G} {cA : Nat → ClassId} {q0 q82 : Nat} {x8 x9 : Nat → Nat} {H : Heap} (h : va_P D vwCl (dk_W0 cA q0 q82 x8 x9) H) : va_at D vwCl (dk_ad q0 q82 x8 x9 36, dk_cel (dk_ad q0 q82 x8 x9, D, cA) 36 (dk_S0.1 36) (dk_S0.2 36)) H := h 36 _ (dk_c0_36 D cA q0 q82 x8 x9)
theorem dk_v0_37 {D : va_G} {cA : Nat → ClassId} {q0 q82 : Nat} {x8 x9 : Nat → Nat} {H : Heap} (h : va_P D vwCl (dk_W0 cA q0 q82 x8 x9) H) : va_at D vwCl (dk_ad q0 q82 x8 x9 37, dk_cel (dk_ad q0 q82 x8 x9, D, cA) 37 (dk_S0.1 37) (dk_S0.2 37)) H := h 37 _ (dk_c0_37 D cA q0 q82 x8 x9)
theorem dk_v0_38 {D : va_G} {cA : Nat → ClassId} {q0 q82 : Nat} {x8 x9 : Nat → Nat} {H : Heap} (h : va_P D vwCl (dk_W0 cA q0 q82 x8 x9) H) : va_at D vwCl (dk_ad q0 q82 x8 x9 38, dk_cel (dk_ad q0 q82 x8 x9, D, cA) 38 (dk_S0.1 38) (dk_S0.2 38)) H := h 38 _ (dk_c0_38 D cA q0 q82 x8 x9)
theorem dk_v0_39 {D : va_G} {cA : Nat → ClassId} {q0 q82 : Nat} {x8 x9 : Nat → Nat} {H : Heap} (h : va_P D vwCl (dk_W0 cA q0 q82 x8 x9) H) : va_at D vwCl (dk_ad q0 q82 x8 x9 39, dk_cel (dk_ad q0 q82 x8 x9, D, cA) 39 (dk_S0.1 39) (dk_S0.2 39)) H := h 39 _ (dk_c0_39 D cA q0 q82 x8 x9)
theorem dk_v0_40 {D : va_G} {cA : Nat → ClassId} {q0 q82 : Nat} {x8 x9 : Nat → Nat} {H : Heap} (h : va_P D vwCl (dk_W0 cA q0 q82 x8 x9) H) : va_at D vwCl (dk_ad q0 q82 x8 x9 40, dk_cel (dk_ad q0 q82 x8 x9, D, cA) 40 (dk_S0.1 40) (dk_S0.2 40)) H := h 40 _ (dk_c0_40 D cA q0 q82 x8 x9)
theorem dk_v0_41 {D : va_G} {cA : Nat → ClassId} {q0 q82 : Nat} {x8 x9 : Nat → Nat} {H : Heap} (h : va_P D vwCl (dk_W0 cA q0 q82 x8 x9) H) : va_at D vwCl (dk_ad q0 q82 x8 x9 41, dk_cel (dk_ad q0 q82 x8 x9, D, cA) 41 (dk_S0.1 41) (dk_S0.2 41)) H := h 41 _ (dk_c0_41 D cA q0 q82 x8 x9)
theorem dk_v0_42 {D : va_G} {cA : Nat → ClassId} {q0 q82 : Nat} {x8 x9 : Nat → Nat} {H : Heap} (h : va_P D vwCl (dk_W0 cA q0 q82 x8 x9) H) : va_at D vwCl (dk_ad q0 q82 x8 x9 42, dk_cel (dk_ad q0 q82 x8 x9, D, cA) 42 (dk_S0.1 42) (dk_S0.2 42)) H := h 42 _ (dk_c0_42 D cA q0 q82 x8 x9)
theorem dk_v0_43 {D : va_G} {cA : Nat → ClassId} {q0 q82 : Nat} {x8 x9 : Nat → Nat} {H : Heap} (h : va_P D vwCl (dk_W0 cA q0 q82 x8 x9) H) : va_at D vwCl (dk_ad q0 q82 x8 x9 43, dk_cel (dk_ad q0 q82 x8 x9, D, cA) 43 (dk_S0.1 43) (dk_S0.2 43)) H := h 43 _ (dk_c0_43 D cA q0 q82 x8 x9)
theorem dk_v0_44 {D : va_G} {cA : Nat → ClassId} {q0 q82 : Nat} {x8 x9 : Nat → Nat} {H : Heap} (h : va_P D vwCl (dk_W0 cA q0 q82 x8 x9) H) : va_at D vwCl (dk_ad q0 q82 x8 x9 44, dk_cel (dk_ad q0 q82 x8 x9, D, cA) 44 (dk_S0.1 44) (dk_S0.2 44)) H := h 44 _ (dk_c0_44 D cA q0 q82 x8 x9)
theorem dk_v0_45 {D : va_G} {cA : Nat → ClassId} {q0 q82 : Nat} {x8 x9 : Nat → Nat} {H : Heap} (h : va_P D vwCl (dk_W0 cA q0 q82 x8 x9) H) : va_at D vwCl (dk_ad q0 q82 x8 x9 45, dk_cel (dk_ad q0 q82 x8 x9, D, cA) 45 (dk_S0.1 45) (dk_S0.2 45)) H := h 45 _ (dk_c0_45 D cA q0 q82 x8 x9)
theorem dk_v0_46 {D : va_G} {cA : Nat → ClassId} {q0 q82 : Nat} {x8 x9 : Nat → Nat} {H : Heap} (h : va_P D vwCl (dk_W0 cA q0 q82 x8 x9) H) : va_at D vwCl (dk_ad q0 q82 x8 x9 46, dk_cel (dk_ad q0 q82 x8 x9, D, cA) 46 (dk_S0.1 46) (dk_S0.2 46)) H := h 46 _ (dk_c0_46 D cA q0 q82 x8 x9)
theorem dk_v0_47 {D : va_G} {cA : Nat → ClassId} {q0 q82 : Nat} {x8 x9 : Nat → Nat} {H : Heap} (h : va_P D vwCl (dk_W0 cA q0 q82 x8 x9) H) : va_at D vwCl (dk_ad q0 q82 x8 x9 47, dk_cel (dk_ad q0 q82 x8 x9, D, cA) 47 (dk_S0.1 47) (dk_S0.2 47)) H := h 47 _ (dk_c0_47 D cA q0 q82 x8 x9)
theorem dk_v0_48 {D : va_G} {cA : Nat → ClassId} {q0 q82 : Nat} {x8 x9 : Nat → Nat} {H : Heap} (h : va_P D vwCl (dk_W0 cA q0 q82 x8 x9) H) : va_at D vwCl (dk_ad q0 q82 x8 x9 48, dk_cel (dk_ad q0 q82 x8 x9, D, cA) 48 (dk_S0.1 48) (dk_S0.2 48)) H := h 48 _ (dk_c0_48 D cA q0 q82 x8 x9)
theorem dk_v0_49 {D : va_G} {cA : Nat → ClassId} {q0 q82 : Nat} {x8 x9 : Nat → Nat} {H : Heap} (h : va_P D vwCl (dk_W0 cA q0 q82 x8 x9) H) : va_at D vwCl (dk_ad q0 q82 x8 x9 49, dk_cel (dk_ad q0 q82 x8 x9, D, cA) 49 (dk_S0.1 49) (dk_S0.2 49)) H := h 49 _ (dk_c0_49 D cA q0 q82 x8 x9)
theorem dk_v0_50 {D : va_G} {cA : Nat → ClassId} {q0 q82 : Nat} {x8 x9 : Nat → Nat} {H : Heap} (h : va_P D vwCl (dk_W0 cA q0 q82 x8 x9) H) : va_at D vwCl (dk_ad q0 q82 x8 x9 50, dk_cel (dk_ad q0 q82 x8 x9, D, cA) 50 (dk_S0.1 50) (dk_S0.2 50)) H := h 50 _ (dk_c0_50 D cA q0 q82 x8 x9)
theorem dk_v0_51 {D : va_G} {cA : Nat → ClassId} {q0 q82 : Nat} {x8 x9 : Nat → Nat} {H : Heap} (h : va_P D vwCl (dk_W0 cA q0 q82 x8 x9) H) : va_at D vwCl (dk_ad q0 q82 x8 x9 51, dk_cel (dk_ad q0 q82 x8 x9, D, cA) 51 (dk_S0.1 51) (dk_S0.2 51)) H := h 51 _ (dk_c0_51 D cA q0 q82 x8 x9)
theorem dk_v0_52 {D : va_G} {cA : Nat → ClassId} {q0 q82 : Nat} {x8 x9 : Nat → Nat} {H : Heap} (h : va_P D vwCl (dk_W0 cA q0 q82 x8 x9) H) : va_at D vwCl (dk_ad q0 q82 x8 x9 52, dk_cel (dk_ad q0 q82 x8 x9, D, cA) 52 (dk_S0.1 52) (dk_S0.2 52)) H := h 52 _ (dk_c0_52 D cA q0 q82 x8 x9)
theorem dk_v0_53 {D : va_G} {cA : Nat → ClassId} {q0 q82 : Nat} {x8 x9 : Nat → Nat} {H : Heap} (h : va_P D vwCl (dk_W0 cA q0 q82 x8 x9) H) : va_at D vwCl (dk_ad q0 q82 x8 x9 53, dk_cel (dk_ad q0 q82 x8 x9, D, cA) 53 (dk_S0.1 53) (dk_S0.2 53)) H := h 53 _ (dk_c0_53 D cA q0 q82 x8 x9)
theorem dk_v0_54 {D : va_G} {cA : Nat → ClassId} {q0 q82 : Nat} {x8 x9 : Nat → Nat} {H : Heap} (h : va_P D vwCl (dk_W0 cA q0 q82 x8 x9) H) : va_at D vwCl (dk_ad q0 q82 x8 x9 54, dk_cel (dk_ad q0 q82 x8 x9, D, cA) 54 (dk_S0.1 54) (dk_S0.2 54)) H := h 54 _ (dk_c0_54 D cA q0 q82 x8 x9)
theorem dk_v0_55 {D : va_G} {cA : Nat → ClassId} {q0 q82 : Nat} {x8 x9 : Nat → Nat} {H : Heap} (h : va_P D vwCl (dk_W0 cA q0 q82 x8 x9) H) : va_at D vwCl (dk_ad q0 q82 x8 x9 55, dk_cel (dk_ad q0 q82 x8 x9, D, cA) 55 (dk_S0.1 55) (dk_S0.2 55)) H := h 55 _ (dk_c0_55 D cA q0 q82 x8 x9)
theorem dk_v0_56 {D : va_G} {cA : Nat → ClassId} {q0 q82 : Nat} {x8 x9 : Nat → Nat} {H : Heap} (h : va_P D vwCl (dk_W0 cA q0 q82 x8 x9) H) : va_at D vwCl (dk_ad q0 q82 x8 x9 56, dk_cel (dk_ad q0 q82 x8 x9, D, cA) 56 (dk_S0.1 56) (dk_S0.2 56)) H := h 56 _ (dk_c0_56 D cA q0 q82 x8 x9)
theorem dk_v0_57 {D : va_G} {cA : Nat → ClassId} {q0 q82 : Nat} {x8 x9 : Nat → Nat} {H : Heap} (h : va_P D vwCl (dk_W0 cA q0 q82 x8 x9) H) : va_at D vwCl (dk_ad q0 q82 x8 x9 57, dk_cel (dk_ad q0 q82 x8 x9, D, cA) 57 (dk_S0.1 57) (dk_S0.2 57)) H := h 57 _ (dk_c0_57 D cA q0 q82 x8 x9)
theorem dk_v0_58 {D : va_G} {cA : Nat → ClassId} {q0 q82 : Nat} {x8 x9 : Nat → Nat} {H : Heap} (h : va_P D vwCl (dk_W0 cA q0 q82 x8 x9) H) : va_at D vwCl (dk_ad q0 q82 x8 x9 58, dk_cel (dk_ad q0 q82 x8 x9, D, cA) 58 (dk_S0.1 58) (dk_S0.2 58)) H := h 58 _ (dk_c0_58 D cA q0 q82 x8 x9)
theorem dk_v0_59 {D : va_G} {cA : Nat → ClassId} {q0 q82 : Nat} {x8 x9 : Nat → Nat} {H : Heap} (h : va_P D vwCl (dk_W0 cA q0 q82 x8 x9) H) : va_at D vwCl (dk_ad q0 q82 x8 x9 59, dk_cel (dk_ad q0 q82 x8 x9, D, cA) 59 (dk_S0.1 59) (dk_S0.2 59)) H := h 59 _ (dk_c0_59 D cA q0 q82 x8 x9)
theorem dk_v0_60 {D : va_G} {cA : Nat → ClassId} {q0 q82 : Nat} {x8 x9 : Nat → Nat} {H : Heap} (h : va_P D vwCl (dk_W0 cA q0 q82 x8 x9) H) : va_at D vwCl (dk_ad q0 q82 x8 x9 60, dk_cel (dk_ad q0 q82 x8 x9, D, cA) 60 (dk_S0.1 60) (dk_S0.2 60)) H := h 60 _ (dk_c0_60 D cA q0 q82 x8 x9)
theorem dk_v0_61 {D : va_G} {cA : Nat → ClassId} {q0 q82 : Nat} {x8 x9 : Nat → Nat} {H : Heap} (h : va_P D vwCl (dk_W0 cA q0 q82 x8 x9) H) : va_at D vwCl (dk_ad q0 q82 x8 x9 61, dk_cel (dk_ad q0 q82 x8 x9, D, cA) 61 (dk_S0.1 61) (dk_S0.2 61)) H := h 61 _ (dk_c0_61 D cA q0 q82 x8 x9)
theorem dk_v0_62 {D : va_G} {cA : Nat → ClassId} {q0 q82 : Nat} {x8 x9 : Nat → Nat} {H : Heap} (h : va_P D vwCl (dk_W0 cA q0 q82 x8 x9) H) : va_at D vwCl (dk_ad q0 q82 x8 x9 62, dk_cel (dk_ad q0 q82 x8 x9, D, cA) 62 (dk_S0.1 62) (dk_S0.2 62)) H := h 62 _ (dk_c0_62 D cA q0 q82 x8 x9)
theorem dk_v0_63 {D : va_G} {cA : Nat → ClassId} {q0 q82 : Nat} {x8 x9 : Nat → Nat} {H : Heap} (h : va_P D vwCl (dk_W0 cA q0 q82 x8 x9) H) : va_at D vwCl (dk_ad q0 q82 x8 x9 63, dk_cel (dk_ad q0 q82 x8 x9, D, cA) 63 (dk_S0.1 63) (dk_S0.2 63)) H := h 63 _ (dk_c0_63 D cA q0 q82 x8 x9)
theorem dk_v0_64 {D : va_G} {cA : Nat → ClassId} {q0 q82 : Nat} {x8 x9 : Nat → Nat} {H : Heap} (h : va_P D vwCl (dk_W0 cA q0 q82 x8 x9) H) : va_at D vwCl (dk_ad q0 q82 x8 x9 64, dk_cel (dk_ad q0 q82 x8 x9, D, cA) 64 (dk_S0.1 64) (dk_S0.2 64)) H := h 64 _ (dk_c0_64 D cA q0 q82 x8 x9)
theorem dk_v0_65 {D : va_G} {cA : Nat → ClassId} {q0 q82 : Nat} {x8 x9 : Nat → Nat} {H : Heap} (h : va_P D vwCl (dk_W0 cA q0 q82 x8 x9) H) : va_at D vwCl (dk_ad q0 q82 x8 x9 65, dk_cel (dk_ad q0 q82 x8 x9, D, cA) 65 (dk_S0.1 65) (dk_S0.2 65)) H := h 65 _ (dk_c0_65 D cA q0 q82 x8 x9)
theorem dk_v0_66 {D : va_G} {cA : Nat → ClassId} {q0 q82 : Nat} {x8 x9 : Nat → Nat} {H : Heap} (h : va_P D vwCl (dk_W0 cA q0 q82 x8 x9) H) : va_at D vwCl (dk_ad q0 q82 x8 x9 66, dk_cel (dk_ad q0 q82 x8 x9, D, cA) 66 (dk_S0.1 66) (dk_S0.2 66)) H := h 66 _ (dk_c0_66 D cA q0 q82 x8 x9)
theorem dk_v0_67 {D : va_G} {cA : Nat → ClassId} {q0 q82 : Nat} {x8 x9 : Nat → Nat} {H : Heap} (h : va_P D vwCl (dk_W0 cA q0 q82 x8 x9) H) : va_at D vwCl (dk_ad q0 q82 x8 x9 67, dk_cel (dk_ad q0 q82 x8 x9, D, cA) 67 (dk_S0.1 67) (dk_S0.2 67)) H := h 67 _ (dk_c0_67 D cA q0 q82 x8 x9)
theorem dk_v0_68 {D : va_G} {cA : Nat → ClassId} {q0 q82 : Nat} {x8 x9 : Nat → Nat} {H : Heap} (h : va_P D vwCl (dk_W0 cA q0 q82 x8 x9) H) : va_at D vwCl (dk_ad q0 q82 x8 x9 68, dk_cel (dk_ad q0 q82 x8 x9, D, cA) 68 (dk_S0.1 68) (dk_S0.2 68)) H := h 68 _ (dk_c0_68 D cA q0 q82 x8 x9)
theorem dk_v0_69 {D : va_G} {cA : Nat → ClassId} {q0 q82 : Nat} {x8 x9 : Nat → Nat} {H : Heap} (h : va_P D vwCl (dk_W0 cA q0 q82 x8 x9) H) : va_at D vwCl (dk_ad q0 q82 x8 x9 69, dk_cel (dk_ad q0 q82 x8 x9, D, cA) 69 (dk_S0.1 69) (dk_S0.2 69)) H := h 69 _ (dk_c0_69 D cA q0 q82 x8 x9)
theorem dk_v0_70 {D : va_G} {cA : Nat → ClassId} {q0 q82 : Nat} {x8 x9 : Nat → Nat} {H : Heap} (h : va_P D vwCl (dk_W0 cA q0 q82 x8 x9) H) : va_at D vwCl (dk_ad q0 q82 x8 x9 70, dk_cel (dk_ad q0 q82 x8 x9, D, cA) 70 (dk_S0.1 70) (dk_S0.2 70)) H := h 70 _ (dk_c0_70 D cA q0 q82 x8 x9)
theorem dk_v0_71 {D : va_G} {cA : Nat → ClassId} {q0 q82 : Nat} {x8 x9 : Nat → Nat} {H : Heap} (h : va_P D vwCl (dk_W0 cA q0 q82 x8 x9) H) : va_at D vwCl (dk_ad q0 q82 x8 x9 71, dk_cel (dk_ad q0 q82 x8 x9, D, cA) 71 (dk_S0.1 71) (dk_S0.2 71)) H := h 71 _ (dk_c0_71 D cA q0 q82 x8 x9)
theorem dk_v0_72 {D : va_G} {cA : Nat → ClassId} {q0 q82 : Nat} {x8 x9 : Nat → Nat} {H : Heap} (h : va_P D vwCl (dk_W0 cA q0 q82 x8 x9) H) : va_at D vwCl (dk_ad q0 q82 x8 x9 72, dk_cel (dk_ad q0 q82 x8 x9, D, cA) 72 (dk_S0.1 72) (dk_S0.2 72)) H := h 72 _ (dk_c0_72 D cA q0 q82 x8 x9)
theorem dk_v0_73 {D : va_G} {cA : Nat → ClassId} {q0 q82 : Nat} {x8 x9 : Nat → Nat} {H : Heap} (h : va_P D vwCl (dk_W0 cA q0 q82 x8 x9) H) : va_at D vwCl (dk_ad q0 q82 x8 x9 73, dk_cel (dk_ad q0 q82 x8 x9, D, cA) 73 (dk_S0.1 73) (dk_S0.2 73)) H := h 73 _ (dk_c0_73 D cA q0 q82 x8 x9)
theorem dk_v0_74 {D : va_G} {cA : Nat → ClassId} {q0 q82 : Nat} {x8 x9 : Nat → Nat} {H : Heap} (h : va_P D vwCl (dk_W0 cA q0 q82 x8 x9) H) : va_at D vwCl (dk_ad q0 q82 x8 x9 74, dk_cel (dk_ad q0 q82 x8 x9, D, cA) 74 (dk_S0.1 74) (dk_S0.2 74)) H := h 74 _ (dk_c0_74 D cA q0 q82 x8 x9)
theorem dk_v0_75 {D : va_G} {cA : Nat → ClassId} {q0 q82 : Nat} {x8 x9 : Nat → Nat} {H : Heap} (h : va_P D vwCl (dk_W0 cA q0 q82 x8 x9) H) : va_at D vwCl (dk_ad q0 q82 x8 x9 75, dk_cel (dk_ad q0 q82 x8 x9, D, cA) 75 (dk_S0.1 75) (dk_S0.2 75)) H := h 75 _ (dk_c0_75 D cA q0 q82 x8 x9)
theorem dk_v0_76 {D : va_G} {cA : Nat → ClassId} {q0 q82 : Nat} {x8 x9 : Nat → Nat} {H : Heap} (h : va_P D vwCl (dk_W0 cA q0 q82 x8 x9) H) : va_at D vwCl (dk_ad q0 q82 x8 x9 76, dk_cel (dk_ad q0 q82 x8 x9, D, cA) 76 (dk_S0.1 76) (dk_S0.2 76)) H := h 76 _ (dk_c0_76 D cA q0 q82 x8 x9)
theorem dk_v0_77 {D : va_G} {cA : Nat → ClassId} {q0 q82 : Nat} {x8 x9 : Nat → Nat} {H : Heap} (h : va_P D vwCl (dk_W0 cA q0 q82 x8 x9) H) : va_at D vwCl (dk_ad q0 q82 x8 x9 77, dk_cel (dk_ad q0 q82 x8 x9, D, cA) 77 (dk_S0.1 77) (dk_S0.2 77)) H := h 77 _ (dk_c0_77 D cA q0 q82 x8 x9)
theorem dk_v0_78 {D : va_G} {cA : Nat → ClassId} {q0 q82 : Nat} {x8 x9 : Nat → Nat} {H : Heap} (h : va_P D vwCl (dk_W0 cA q0 q82 x8 x9) H) : va_at D vwCl (dk_ad q0 q82 x8 x9 78, dk_cel (dk_ad q0 q82 x8 x9, D, cA) 78 (dk_S0.1 78) (dk_S0.2 78)) H := h 78 _ (dk_c0_78 D cA q0 q82 x8 x9)
theorem dk_v0_79 {D : va_G} {cA : Nat → ClassId} {q0 q82 : Nat} {x8 x9 : Nat → Nat} {H : Heap} (h : va_P D vwCl (dk_W0 cA q0 q82 x8 x9) H) : va_at D vwCl (dk_ad q0 q82 x8 x9 79, dk_cel (dk_ad q0 q82 x8 x9, D, cA) 79 (dk_S0.1 79) (dk_S0.2 79)) H := h 79 _ (dk_c0_79 D cA q0 q82 x8 x9)
theorem dk_v0_80 {D : va_G} {cA : Nat → ClassId} {q0 q82 : Nat} {x8 x9 : Nat → Nat} {H : Heap} (h : va_P D vwCl (dk_W0 cA q0 q82 x8 x9) H) : va_at D vwCl (dk_ad q0 q82 x8 x9 80, dk_cel (dk_ad q0 q82 x8 x9, D, cA) 80 (dk_S0.1 80) (dk_S0.2 80)) H := h 80 _ (dk_c0_80 D cA q0 q82 x8 x9)
theorem dk_v0_81 {D : va_G} {cA : Nat → ClassId} {q0 q82 : Nat} {x8 x9 : Nat → Nat} {H : Heap} (h : va_P D vwCl (dk_W0 cA q0 q82 x8 x9) H) : va_at D vwCl (dk_ad q0 q82 x8 x9 81, dk_cel (dk_ad q0 q82 x8 x9, D, cA) 81 (dk_S0.1 81) (dk_S0.2 81)) H := h 81 _ (dk_c0_81 D cA q0 q82 x8 x9)
theorem dk_v0_82 {D : va_G} {cA : Nat → ClassId} {q0 q82 : Nat} {x8 x9 : Nat → Nat} {H : Heap} (h : va_P D vwCl (dk_W0 cA q0 q82 x8 x9) H) : va_at D vwCl (dk_ad q0 q82 x8 x9 82, dk_cel (dk_ad q0 q82 x8 x9, D, cA) 82 (dk_S0.1 82) (dk_S0.2 82)) H := h 82 _ (dk_c0_82 D cA q0 q82 x8 x9)
theorem dk_v0_83 {D : va_G} {cA : Nat → ClassId} {q0 q82 : Nat} {x8 x9 : Nat → Nat} {H : Heap} (h : va_P D vwCl (dk_W0 cA q0 q82 x8 x9) H) : va_at D vwCl (dk_ad q0 q82 x8 x9 83, dk_cel (dk_ad q0 q82 x8 x9, D, cA) 83 (dk_S0.1 83) (dk_S0.2 83)) H := h 83 _ (dk_c0_83 D cA q0 q82 x8 x9)
theorem dk_v0_84 {D : va_G} {cA : Nat → ClassId} {q0 q82 : Nat} {x8 x9 : Nat → Nat} {H : Heap} (h : va_P D vwCl (dk_W0 cA q0 q82 x8 x9) H) : va_at D vwCl (dk_ad q0 q82 x8 x9 84, dk_cel (dk_ad q0 q82 x8 x9, D, cA) 84 (dk_S0.1 84) (dk_S0.2 84)) H := h 84 _ (dk_c0_84 D cA q0 q82 x8 x9)
theorem dk_v0_85 {D : va_G} {cA : Nat → ClassId} {q0 q82 : Nat} {x8 x9 : Nat → Nat} {H : Heap} (h : va_P D vwCl (dk_W0 cA q0 q82 x8 x9) H) : va_at D vwCl (dk_ad q0 q82 x8 x9 85, dk_cel (dk_ad q0 q82 x8 x9, D, cA) 85 (dk_S0.1 85) (dk_S0.2 85)) H := h 85 _ (dk_c0_85 D cA q0 q82 x8 x9)
theorem dk_v0_86 {D : va_G} {cA : Nat → ClassId} {q0 q82 : Nat} {x8 x9 : Nat → Nat} {H : Heap} (h : va_P D vwCl (dk_W0 cA q0 q82 x8 x9) H) : va_at D vwCl (dk_ad q0 q82 x8 x9 86, dk_cel (dk_ad q0 q82 x8 x9, D, cA) 86 (dk_S0.1 86) (dk_S0.2 86)) H := h 86 _ (dk_c0_86 D cA q0 q82 x8 x9)
theorem dk_v0_87 {D : va_G} {cA : Nat → ClassId} {q0 q82 : Nat} {x8 x9 : Nat → Nat} {H : Heap} (h : va_P D vwCl (dk_W0 cA q0 q82 x8 x9) H) : va_at D vwCl (dk_ad q0 q82 x8 x9 87, dk_cel (dk_ad q0 q82 x8 x9, D, cA) 87 (dk_S0.1 87) (dk_S0.2 87)) H := h 87 _ (dk_c0_87 D cA q0 q82 x8 x9)
theorem dk_v0_88 {D : va_G} {cA : Nat → ClassId} {q0 q82 : Nat} {x8 x9 : Nat → Nat} {H : Heap} (h : va_P D vwCl (dk_W0 cA q0 q82 x8 x9) H) : va_at D vwCl (dk_ad q0 q82 x8 x9 88, dk_cel (dk_ad q0 q82 x8 x9, D, cA) 88 (dk_S0.1 88) (dk_S0.2 88)) H := h 88 _ (dk_c0_88 D cA q0 q82 x8 x9)
theorem dk_v0_89 {D : va_G} {cA : Nat → ClassId} {q0 q82 : Nat} {x8 x9 : Nat → Nat} {H : Heap} (h : va_P D vwCl (dk_W0 cA q0 q82 x8 x9) H) : va_at D vwCl (dk_ad q0 q82 x8 x9 89, dk_cel (dk_ad q0 q82 x8 x9, D, cA) 89 (dk_S0.1 89) (dk_S0.2 89)) H := h 89 _ (dk_c0_89 D cA q0 q82 x8 x9)
theorem dk_v0_90 {D : va_G} {cA : Nat → ClassId} {q0 q82 : Nat} {x8 x9 : Nat → Nat} {H : Heap} (h : va_P D vwCl (dk_W0 cA q0 q82 x8 x9) H) : va_at D vwCl (dk_ad q0 q82 x8 x9 90, dk_cel (dk_ad q0 q82 x8 x9, D, cA) 90 (dk_S0.1 90) (dk_S0.2 90)) H := h 90 _ (dk_c0_90 D cA q0 q82 x8 x9)
theorem dk_v0_91 {D : va_G} {cA : Nat → ClassId} {q0 q82 : Nat} {x8 x9 : Nat → Nat} {H : Heap} (h : va_P D vwCl (dk_W0 cA q0 q82 x8 x9) H) : va_at D vwCl (dk_ad q0 q82 x8 x9 91, dk_cel (dk_ad q0 q82 x8 x9, D, cA) 91 (dk_S0.1 91) (dk_S0.2 91)) H := h 91 _ (dk_c0_91 D cA q0 q82 x8 x9)
theorem dk_v0_92 {D : va_G} {cA : Nat → ClassId} {q0 q82 : Nat} {x8 x9 : Nat → Nat} {H : Heap} (h : va_P D vwCl (dk_W0 cA q0 q82 x8 x9) H) : va_at D vwCl (dk_ad q0 q82 x8 x9 92, dk_cel (dk_ad q0 q82 x8 x9, D, cA) 92 (dk_S0.1 92) (dk_S0.2 92)) H := h 92 _ (dk_c0_92 D cA q0 q82 x8 x9)
theorem dk_v0_93 {D : va_G} {cA : Nat → ClassId} {q0 q82 : Nat} {x8 x9 : Nat → Nat} {H : Heap} (h : va_P D vwCl (dk_W0 cA q0 q82 x8 x9) H) : va_at D vwCl (dk_ad q0 q82 x8 x9 93, dk_cel (dk_ad q0 q82 x8 x9, D, cA) 93 (dk_S0.1 93) (dk_S0.2 93)) H := h 93 _ (dk_c0_93 D cA q0 q82 x8 x9)
theorem dk_v0_94 {D : va_G} {cA : Nat → ClassId} {q0 q82 : Nat} {x8 x9 : Nat → Nat} {H : Heap} (h : va_P D vwCl (dk_W0 cA q0 q82 x8 x9) H) : va_at D vwCl (dk_ad q0 q82 x8 x9 94, dk_cel (dk_ad q0 q82 x8 x9, D, cA) 94 (dk_S0.1 94) (dk_S0.2 94)) H := h 94 _ (dk_c0_94 D cA q0 q82 x8 x9)
theorem dk_v0_95 {D : va_G} {cA : Nat → ClassId} {q0 q82 : Nat} {x8 x9 : Nat → Nat} {H : Heap} (h : va_P D vwCl (dk_W0 cA q0 q82 x8 x9) H) : va_at D vwCl (dk_ad q0 q82 x8 x9 95, dk_cel (dk_ad q0 q82 x8 x9, D, cA) 95 (dk_S0.1 95) (dk_S0.2 95)) H := h 95 _ (dk_c0_95 D cA q0 q82 x8 x9)
theorem dk_v0_96 {D : va_G} {cA : Nat → ClassId} {q0 q82 : Nat} {x8 x9 : Nat → Nat} {H : Heap} (h : va_P D vwCl (dk_W0 cA q0 q82 x8 x9) H) : va_at D vwCl (dk_ad q0 q82 x8 x9 96, dk_cel (dk_ad q0 q82 x8 x9, D, cA) 96 (dk_S0.1 96) (dk_S0.2 96)) H := h 96 _ (dk_c0_96 D cA q0 q82 x8 x9)
theorem dk_v0_97 {D : va_G} {cA : Nat → ClassId} {q0 q82 : Nat} {x8 x9 : Nat → Nat} {H : Heap} (h : va_P D vwCl (dk_W0 cA q0 q82 x8 x9) H) : va_at D vwCl (dk_ad q0 q82 x8 x9 97, dk_cel (dk_ad q0 q82 x8 x9, D, cA) 97 (dk_S0.1 97) (dk_S0.2 97)) H := h 97 _ (dk_c0_97 D cA q0 q82 x8 x9)
theorem dk_v0_98 {D : va_G} {cA : Nat → ClassId} {q0 q82 : Nat} {x8 x9 : Nat → Nat} {H : Heap} (h : va_P D vwCl (dk_W0 cA q0 q82 x8 x9) H) : va_at D vwCl (dk_ad q0 q82 x8 x9 98, dk_cel (dk_ad q0 q82 x8 x9, D, cA) 98 (dk_S0.1 98) (dk_S0.2 98)) H := h 98 _ (dk_c0_98 D cA q0 q82 x8 x9)
theorem dk_v0_99 {D : va_G} {cA : Nat → ClassId} {q0 q82 : Nat} {x8 x9 : Nat → Nat} {H : Heap} (h : va_P D vwCl (dk_W0 cA q0 q82 x8 x9) H) : va_at D vwCl (dk_ad q0 q82 x8 x9 99, dk_cel (dk_ad q0 q82 x8 x9, D, cA) 99 (dk_S0.1 99) (dk_S0.2 99)) H := h 99 _ (dk_c0_99 D cA q0 q82 x8 x9)
theorem dk_v0_100 {D : va_G} {cA : Nat → ClassId} {q0 q82 : Nat} {x8 x9 : Nat → Nat} {H : Heap} (h : va_P D vwCl (dk_W0 cA q0 q82 x8 x9) H) : va_at D vwCl (dk_ad q0 q82 x8 x9 100, dk_cel (dk_ad q0 q82 x8 x9, D, cA) 100 (dk_S0.1 100) (dk_S0.2 100)) H := h 100 _ (dk_c0_100 D cA q0 q82 x8 x9)
theorem dk_v0_101 {D : va_G} {cA : Nat → ClassId} {q0 q82 : Nat} {x8 x9 : Nat → Nat} {H : Heap} (h : va_P D vwCl (dk_W0 cA q0 q82 x8 x9) H) : va_at D vwCl (dk_ad q0 q82 x8 x9 101, dk_cel (dk_ad q0 q82 x8 x9, D, cA) 101 (dk_S0.1 101) (dk_S0.2 101)) H := h 101 _ (dk_c0_101 D cA q0 q82 x8 x9)
theorem dk_v0_102 {D : va_G} {cA : Nat → ClassId} {q0 q82 : Nat} {x8 x9 : Nat → Nat} {H : Heap} (h : va_P D vwCl (dk_W0 cA q0 q82 x8 x9) H) : va_at D vwCl (dk_ad q0 q82 x8 x9 102, dk_cel (dk_ad q0 q82 x8 x9, D, cA) 102 (dk_S0.1 102) (dk_S0.2 102)) H := h 102 _ (dk_c0_102 D cA q0 q82 x8 x9)
theorem dk_vb0 {D : va_G} {cA : Nat → ClassId} {q0 q82 : Nat} {x8 x9 : Nat → Nat} {H : Heap} (h : va_P D vwCl (dk_W0 cA q0 q82 x8 x9) H) (k : Nat) (h1 : 0 ≤ k) (h2 : k < 20) : va_at D vwCl (dk_ad q0 q82 x8 x9 k, dk_cel (dk_ad q0 q82 x8 x9, D, cA) k (dk_S0.1 k) (dk_S0.2 k)) H := by
  rcases (show k = 0 ∨ k = 1 ∨ k = 2 ∨ k = 3 ∨ k = 4 ∨ k = 5 ∨ k = 6 ∨ k = 7 ∨ k = 8 ∨ k = 9 ∨ k = 10 ∨ k = 11 ∨ k = 12 ∨ k = 13 ∨ k = 14 ∨ k = 15 ∨ k = 16 ∨ k = 17 ∨ k = 18 ∨ k = 19 by omega) with rfl | rfl | rfl | rfl | rfl | rfl | rfl | rfl | rfl | rfl | rfl | rfl | rfl | rfl | rfl | rfl | rfl | rfl | rfl | rfl
  · exact dk_v0_0 h
  · exact dk_v0_1 h
  · exact dk_v0_2 h
  · exact dk_v0_3 h
  · exact dk_v0_4 h
  · exact dk_v0_5 h
  · exact dk_v0_6 h
  · exact dk_v0_7 h
  · exact dk_v0_8 h
  · exact dk_v0_9 h
  · exact dk_v0_10 h
  · exact dk_v0_11 h
  · exact dk_v0_12 h
  · exact dk_v0_13 h
  · exact dk_v0_14 h
  · exact dk_v0_15 h
  · exact dk_v0_16 h
  · exact dk_v0_17 h
  · exact dk_v0_18 h
  · exact dk_v0_19 h
theorem dk_vb1 {D : va_G} {cA : Nat → ClassId} {q0 q82 : Nat} {x8 x9 : Nat → Nat} {H : Heap} (h : va_P D vwCl (dk_W0 cA q0 q82 x8 x9) H) (k : Nat) (h1 : 20 ≤ k) (h2 : k < 40) : va_at D vwCl (dk_ad q0 q82 x8 x9 k, dk_cel (dk_ad q0 q82 x8 x9, D, cA) k (dk_S0.1 k) (dk_S0.2 k)) H := by
  rcases (show k = 20 ∨ k = 21 ∨ k = 22 ∨ k = 23 ∨ k = 24 ∨ k = 25 ∨ k = 26 ∨ k = 27 ∨ k = 28 ∨ k = 29 ∨ k = 30 ∨ k = 31 ∨ k = 32 ∨ k = 33 ∨ k = 34 ∨ k = 35 ∨ k = 36 ∨ k = 37 ∨ k = 38 ∨ k = 39 by omega) with rfl | rfl | rfl | rfl | rfl | rfl | rfl | rfl | rfl | rfl | rfl | rfl | rfl | rfl | rfl | rfl | rfl | rfl | rfl | rfl
  · exact dk_v0_20 h
  · exact dk_v0_21 h
  · exact dk_v0_22 h
  · exact dk_v0_23 h
  · exact dk_v0_24 h
  · exact dk_v0_25 h
  · exact dk_v0_26 h
  · exact dk_v0_27 h
  · exact dk_v0_28 h
  · exact dk_v0_29 h
  · exact dk_v0_30 h
  · exact dk_v0_31 h
  · exact dk_v0_32 h
  · exact dk_v0_33 h
  · exact dk_v0_34 h
  · exact dk_v0_35 h
  · exact dk_v0_36 h
  · exact dk_v0_37 h
  · exact dk_v0_38 h
  · exact dk_v0_39 h
theorem dk_vb2 {D : va_G} {cA : Nat → ClassId} {q0 q82 : Nat} {x8 x9 : Nat → Nat} {H : Heap} (h : va_P D vwCl (dk_W0 cA q0 q82 x8 x9) H) (k : Nat) (h1 : 40 ≤ k) (h2 : k < 60) : va_at D vwCl (dk_ad q0 q82 x8 x9 k, dk_cel (dk_ad q0 q82 x8 x9, D, cA) k (dk_S0.1 k) (dk_S0.2 k)) H := by
  rcases (show k = 40 ∨ k = 41 ∨ k = 42 ∨ k = 43 ∨ k = 44 ∨ k = 45 ∨ k = 46 ∨ k = 47 ∨ k = 48 ∨ k = 49 ∨ k = 50 ∨ k = 51 ∨ k = 52 ∨ k = 53 ∨ k = 54 ∨ k = 55 ∨ k = 56 ∨ k = 57 ∨ k = 58 ∨ k = 59 by omega) with rfl | rfl | rfl | rfl | rfl | rfl | rfl | rfl | rfl | rfl | rfl | rfl | rfl | rfl | rfl | rfl | rfl | rfl | rfl | rfl
  · exact dk_v0_40 h
  · exact dk_v0_41 h
  · exact dk_v0_42 h
  · exact dk_v0_43 h
  · exact dk_v0_44 h
  · exact dk_v0_45 h
  · exact dk_v0_46 h
  · exact dk_v0_47 h
  · exact dk_v0_48 h
  · exact dk_v0_49 h
  · exact dk_v0_50 h
  · exact dk_v0_51 h
  · exact dk_v0_52 h
  · exact dk_v0_53 h
  · exact dk_v0_54 h
  · exact dk_v0_55 h
  · exact dk_v0_56 h
  · exact dk_v0_57 h
  · exact dk_v0_58 h
  · exact dk_v0_59 h
theorem dk_vb3 {D : va_G} {cA : Nat → ClassId} {q0 q82 : Nat} {x8 x9 : Nat → Nat} {H : Heap} (h : va_P D vwCl (dk_W0 cA q0 q82 x8 x9) H) (k : Nat) (h1 : 60 ≤ k) (h2 : k < 80) : va_at D vwCl (dk_ad q0 q82 x8 x9 k, dk_cel (dk_ad q0 q82 x8 x9, D, cA) k (dk_S0.1 k) (dk_S0.2 k)) H := by
  rcases (show k = 60 ∨ k = 61 ∨ k = 62 ∨ k = 63 ∨ k = 64 ∨ k = 65 ∨ k = 66 ∨ k = 67 ∨ k = 68 ∨ k = 69 ∨ k = 70 ∨ k = 71 ∨ k = 72 ∨ k = 73 ∨ k = 74 ∨ k = 75 ∨ k = 76 ∨ k = 77 ∨ k = 78 ∨ k = 79 by omega) with rfl | rfl | rfl | rfl | rfl | rfl | rfl | rfl | rfl | rfl | rfl | rfl | rfl | rfl | rfl | rfl | rfl | rfl | rfl | rfl
  · exact dk_v0_60 h
  · exact dk_v0_61 h
  · exact dk_v0_62 h
  · exact dk_v0_63 h
  · exact dk_v0_64 h
  · exact dk_v0_65 h
  · exact dk_v0_66 h
  · exact dk_v0_67 h
  · exact dk_v0_68 h
  · exact dk_v0_69 h
  · exact dk_v0_70 h
  · exact dk_v0_71 h
  · exact dk_v0_72 h
  · exact dk_v0_73 h
  · exact dk_v0_74 h
  · exact dk_v0_75 h
  · exact dk_v0_76 h
  · exact dk_v0_77 h
  · exact dk_v0_78 h
  · exact dk_v0_79 h
theorem dk_vb4 {D : va_G} {cA : Nat → ClassId} {q0 q82 : Nat} {x8 x9 : Nat → Nat} {H : Heap} (h : va_P D vwCl (dk_W0 cA q0 q82 x8 x9) H) (k : Nat) (h1 : 80 ≤ k) (h2 : k < 100) : va_at D vwCl (dk_ad q0 q82 x8 x9 k, dk_cel (dk_ad q0 q82 x8 x9, D, cA) k (dk_S0.1 k) (dk_S0.2 k)) H := by
  rcases (show k = 80 ∨ k = 81 ∨ k = 82 ∨ k = 83 ∨ k = 84 ∨ k = 85 ∨ k = 86 ∨ k = 87 ∨ k = 88 ∨ k = 89 ∨ k = 90 ∨ k = 91 ∨ k = 92 ∨ k = 93 ∨ k = 94 ∨ k = 95 ∨ k = 96 ∨ k = 97 ∨ k = 98 ∨ k = 99 by omega) with rfl | rfl | rfl | rfl | rfl | rfl | rfl | rfl | rfl | rfl | rfl | rfl | rfl | rfl | rfl | rfl | rfl | rfl | rfl | rfl
  · exact dk_v0_80 h
  · exact dk_v0_81 h
  · exact dk_v0_82 h
  · exact dk_v0_83 h
  · exact dk_v0_84 h
  · exact dk_v0_85 h
  · exact dk_v0_86 h
  · exact dk_v0_87 h
  · exact dk_v0_88 h
  · exact dk_v0_89 h
  · exact dk_v0_90 h
  · exact dk_v0_91 h
  · exact dk_v0_92 h
  · exact dk_v0_93 h
  · exact dk_v0_94 h
  · exact dk_v0_95 h
  · exact dk_v0_96 h
  · exact dk_v0_97 h
  · exact dk_v0_98 h
  · exact dk_v0_99 h
theorem dk_vb5 {D : va_G} {cA : Nat → ClassId} {q0 q82 : Nat} {x8 x9 : Nat → Nat} {H : Heap} (h : va_P D vwCl (dk_W0 cA q0 q82 x8 x9) H) (k : Nat) (h1 : 100 ≤ k) (h2 : k < 103) : va_at D vwCl (dk_ad q0 q82 x8 x9 k, dk_cel (dk_ad q0 q82 x8 x9, D, cA) k (dk_S0.1 k) (dk_S0.2 k)) H := by
  rcases (show k = 100 ∨ k = 101 ∨ k = 102 by omega) with rfl | rfl | rfl
  · exact dk_v0_100 h
  · exact dk_v0_101 h
  · exact dk_v0_102 h
theorem dk_P0 {D : va_G} {cA : Nat → ClassId} {q0 q82 : Nat} {x8 x9 : Nat → Nat} {H : Heap} (h : va_P D vwCl (dk_W0 cA q0 q82 x8 x9) H) : va_P D vwCl (dk_wd (dk_ad q0 q82 x8 x9, D, cA) dk_S0) H := by
  intro k q hq
  obtain ⟨hk, -⟩ := dk_addr hq
  rw [dk_at hk] at hq
  cases hq
  by_cases b0 : k < 20
  · exact dk_vb0 h k (by omega) b0
  by_cases b1 : k < 40
  · exact dk_vb1 h k (by omega) b1
  by_cases b2 : k < 60
  · exact dk_vb2 h k (by omega) b2
  by_cases b3 : k < 80
  · exact dk_vb3 h k (by omega) b3
  by_cases b4 : k < 100
  · exact dk_vb4 h k (by omega) b4
  by_cases b5 : k < 103
  · exact dk_vb5 h k (by omega) b5
  omega
theorem dk_ab0 (D : va_G) (cA : Nat → ClassId) (q0 q82 : Nat) (x8 x9 : Nat → Nat) (k : Nat) (h1 : 0 ≤ k) (h2 : k < 20) : ∃ e, (dk_W0 cA q0 q82 x8 x9)[k]? = some (dk_ad q0 q82 x8 x9 k, e) := by
  rcases (show k = 0 ∨ k = 1 ∨ k = 2 ∨ k = 3 ∨ k = 4 ∨ k = 5 ∨ k = 6 ∨ k = 7 ∨ k = 8 ∨ k = 9 ∨ k = 10 ∨ k = 11 ∨ k = 12 ∨ k = 13 ∨ k = 14 ∨ k = 15 ∨ k = 16 ∨ k = 17 ∨ k = 18 ∨ k = 19 by omega) with rfl | rfl | rfl | rfl | rfl | rfl | rfl | rfl | rfl | rfl | rfl | rfl | rfl | rfl | rfl | rfl | rfl | rfl | rfl | rfl
  · exact ⟨_, rfl⟩
  · exact ⟨_, rfl⟩
  · exact ⟨_, rfl⟩
  · exact ⟨_, rfl⟩
  · exact ⟨_, rfl⟩
  · exact ⟨_, rfl⟩
  · exact ⟨_, rfl⟩
  · exact ⟨_, rfl⟩
  · exact ⟨_, rfl⟩
  · exact ⟨_, rfl⟩
  · exact ⟨_, rfl⟩
  · exact ⟨_, rfl⟩
  · exact ⟨_, rfl⟩
  · exact ⟨_, rfl⟩
  · exact ⟨_, rfl⟩
  · exact ⟨_, rfl⟩
  · exact ⟨_, rfl⟩
  · exact ⟨_, rfl⟩
  · exact ⟨_, rfl⟩
  · exact ⟨_, rfl⟩
theorem dk_ab1 (D : va_G) (cA : Nat → ClassId) (q0 q82 : Nat) (x8 x9 : Nat → Nat) (k : Nat) (h1 : 20 ≤ k) (h2 : k < 40) : ∃ e, (dk_W0 cA q0 q82 x8 x9)[k]? = some (dk_ad q0 q82 x8 x9 k, e) := by
  rcases (show k = 20 ∨ k = 21 ∨ k = 22 ∨ k = 23 ∨ k = 24 ∨ k = 25 ∨ k = 26 ∨ k = 27 ∨ k = 28 ∨ k = 29 ∨ k = 30 ∨ k = 31 ∨ k = 32 ∨ k = 33 ∨ k = 34 ∨ k = 35 ∨ k = 36 ∨ k = 37 ∨ k = 38 ∨ k = 39 by omega) with rfl | rfl | rfl | rfl | rfl | rfl | rfl | rfl | rfl | rfl | rfl | rfl | rfl | rfl | rfl | rfl | rfl | rfl | rfl | rfl
  · exact ⟨_, rfl⟩
  · exact ⟨_, rfl⟩
  · exact ⟨_, rfl⟩
  · exact ⟨_, rfl⟩
  · exact ⟨_, rfl⟩
  · exact ⟨_, rfl⟩
  · exact ⟨_, rfl⟩
  · exact ⟨_, rfl⟩
  · exact ⟨_, rfl⟩
  · exact ⟨_, rfl⟩
  · exact ⟨_, rfl⟩
  · exact ⟨_, rfl⟩
  · exact ⟨_, rfl⟩
  · exact ⟨_, rfl⟩
  · exact ⟨_, rfl⟩
  · exact ⟨_, rfl⟩
  · exact ⟨_, rfl⟩
  · exact ⟨_, rfl⟩
  · exact ⟨_, rfl⟩
  · exact ⟨_, rfl⟩
theorem dk_ab2 (D : va_G) (cA : Nat → ClassId) (q0 q82 : Nat) (x8 x9 : Nat → Nat) (k : Nat) (h1 : 40 ≤ k) (h2 : k < 60) : ∃ e, (dk_W0 cA q0 q82 x8 x9)[k]? = some (dk_ad q0 q82 x8 x9 k, e) := by
  rcases (show k = 40 ∨ k = 41 ∨ k = 42 ∨ k = 43 ∨ k = 44 ∨ k = 45 ∨ k = 46 ∨ k = 47 ∨ k = 48 ∨ k = 49 ∨ k = 50 ∨ k = 51 ∨ k = 52 ∨ k = 53 ∨ k = 54 ∨ k = 55 ∨ k = 56 ∨ k = 57 ∨ k = 58 ∨ k = 59 by omega) with rfl | rfl | rfl | rfl | rfl | rfl | rfl | rfl | rfl | rfl | rfl | rfl | rfl | rfl | rfl | rfl | rfl | rfl | rfl | rfl
  · exact ⟨_, rfl⟩
  · exact ⟨_, rfl⟩
  · exact ⟨_, rfl⟩
  · exact ⟨_, rfl⟩
  · exact ⟨_, rfl⟩
  · exact ⟨_, rfl⟩
  · exact ⟨_, rfl⟩
  · exact ⟨_, rfl⟩
  · exact ⟨_, rfl⟩
  · exact ⟨_, rfl⟩
  · exact ⟨_, rfl⟩
  · exact ⟨_, rfl⟩
  · exact ⟨_, rfl⟩
  · exact ⟨_, rfl⟩
  · exact ⟨_, rfl⟩
  · exact ⟨_, rfl⟩
  · exact ⟨_, rfl⟩
  · exact ⟨_, rfl⟩
  · exact ⟨_, rfl⟩
  · exact ⟨_, rfl⟩
theorem dk_ab3 (D : va_G) (cA : Nat → ClassId) (q0 q82 : Nat) (x8 x9 : Nat → Nat) (k : Nat) (h1 : 60 ≤ k) (h2 : k < 80) : ∃ e, (dk_W0 cA q0 q82 x8 x9)[k]? = some (dk_ad q0 q82 x8 x9 k, e) := by
  rcases (show k = 60 ∨ k = 61 ∨ k = 62 ∨ k = 63 ∨ k = 64 ∨ k = 65 ∨ k = 66 ∨ k = 67 ∨ k = 68 ∨ k = 69 ∨ k = 70 ∨ k = 71 ∨ k = 72 ∨ k = 73 ∨ k = 74 ∨ k = 75 ∨ k = 76 ∨ k = 77 ∨ k = 78 ∨ k = 79 by omega) with rfl | rfl | rfl | rfl | rfl | rfl | rfl | rfl | rfl | rfl | rfl | rfl | rfl | rfl | rfl | rfl | rfl | rfl | rfl | rfl
  · exact ⟨_, rfl⟩
  · exact ⟨_, rfl⟩
  · exact ⟨_, rfl⟩
  · exact ⟨_, rfl⟩
  · exact ⟨_, rfl⟩
  · exact ⟨_, rfl⟩
  · exact ⟨_, rfl⟩
  · exact ⟨_, rfl⟩
  · exact ⟨_, rfl⟩
  · exact ⟨_, rfl⟩
  · exact ⟨_, rfl⟩
  · exact ⟨_, rfl⟩
  · exact ⟨_, rfl⟩
  · exact ⟨_, rfl⟩
  · exact ⟨_, rfl⟩
  · exact ⟨_, rfl⟩
  · exact ⟨_, rfl⟩
  · exact ⟨_, rfl⟩
  · exact ⟨_, rfl⟩
  · exact ⟨_, rfl⟩
theorem dk_ab4 (D : va_G) (cA : Nat → ClassId) (q0 q82 : Nat) (x8 x9 : Nat → Nat) (k : Nat) (h1 : 80 ≤ k) (h2 : k < 100) : ∃ e, (dk_W0 cA q0 q82 x8 x9)[k]? = some (dk_ad q0 q82 x8 x9 k, e) := by
  rcases (show k = 80 ∨ k = 81 ∨ k = 82 ∨ k = 83 ∨ k = 84 ∨ k = 85 ∨ k = 86 ∨ k = 87 ∨ k = 88 ∨ k = 89 ∨ k = 90 ∨ k = 91 ∨ k = 92 ∨ k = 93 ∨ k = 94 ∨ k = 95 ∨ k = 96 ∨ k = 97 ∨ k = 98 ∨ k = 99 by omega) with rfl | rfl | rfl | rfl | rfl | rfl | rfl | rfl | rfl | rfl | rfl | rfl | rfl | rfl | rfl | rfl | rfl | rfl | rfl | rfl
  · exact ⟨_, rfl⟩
  · exact ⟨_, rfl⟩
  · exact ⟨_, rfl⟩
  · exact ⟨_, rfl⟩
  · exact ⟨_, rfl⟩
  · exact ⟨_, rfl⟩
  · exact ⟨_, rfl⟩
  · exact ⟨_, rfl⟩
  · exact ⟨_, rfl⟩
  · exact ⟨_, rfl⟩
  · exact ⟨_, rfl⟩
  · exact ⟨_, rfl⟩
  · exact ⟨_, rfl⟩
  · exact ⟨_, rfl⟩
  · exact ⟨_, rfl⟩
  · exact ⟨_, rfl⟩
  · exact ⟨_, rfl⟩
  · exact ⟨_, rfl⟩
  · exact ⟨_, rfl⟩
  · exact ⟨_, rfl⟩
theorem dk_ab5 (D : va_G) (cA : Nat → ClassId) (q0 q82 : Nat) (x8 x9 : Nat → Nat) (k : Nat) (h1 : 100 ≤ k) (h2 : k < 103) : ∃ e, (dk_W0 cA q0 q82 x8 x9)[k]? = some (dk_ad q0 q82 x8 x9 k, e) := by
  rcases (show k = 100 ∨ k = 101 ∨ k = 102 by omega) with rfl | rfl | rfl
  · exact ⟨_, rfl⟩
  · exact ⟨_, rfl⟩
  · exact ⟨_, rfl⟩
theorem dk_ab (D : va_G) (cA : Nat → ClassId) (q0 q82 : Nat) (x8 x9 : Nat → Nat) (k : Nat) (hk : k < 103) : ∃ e, (dk_W0 cA q0 q82 x8 x9)[k]? = some (dk_ad q0 q82 x8 x9 k, e) := by
  by_cases b0 : k < 20
  · exact dk_ab0 D cA q0 q82 x8 x9 k (by omega) b0
  by_cases b1 : k < 40
  · exact dk_ab1 D cA q0 q82 x8 x9 k (by omega) b1
  by_cases b2 : k < 60
  · exact dk_ab2 D cA q0 q82 x8 x9 k (by omega) b2
  by_cases b3 : k < 80
  · exact dk_ab3 D cA q0 q82 x8 x9 k (by omega) b3
  by_cases b4 : k < 100
  · exact dk_ab4 D cA q0 q82 x8 x9 k (by omega) b4
  by_cases b5 : k < 103
  · exact dk_ab5 D cA q0 q82 x8 x9 k (by omega) b5
  omega
theorem dk_and63 (x : Int32) : 0 ≤ (x &&& 63).toInt ∧ (x &&& 63).toInt ≤ 63 := by
  obtain ⟨j, hj, e⟩ := pk_andE x (m := 63) 6 (by decide)
  rw [e, nI_toInt (by omega)]
  omega
set_option maxRecDepth 100000 in
set_option maxHeartbeats 8000000 in
theorem law_loop {p : Program} {l : Launch} {e : Env} {s : State} {m : MethodId} {below : List Frame} {meth : Method} {c : Code} {g : dk_G} {b L : Nat} {xs : Nat → Int32} (hL : L ≤ 3072) (C : dk_CL p s m meth c g b L xs) : ∀ (f n : Nat) (S : dk_S), n + f = 513 → 6 * n ≤ L → dk_I n S → dk_JL p l e s m below meth c g b 18 [(0, .ref b), (1, .ref (g.1 0)), (2, .ref (g.1 82)), (3, .int (nI (6 * n)))] [] S := by
  intro f
  induction f with
  | zero =>
    intro n S hf h6
    omega
  | succ f ih =>
    intro n S hf h6 hI
    refine dg_iload_n C 3 rfl dL_law_18 ?_
    refine dg_aload_n C 0 rfl dL_law_19 ?_
    refine dg_slen C dL_law_20 ?_
    refine dg_bipush C dL_law_21 dc_bipush_6 ?_
    refine dg_isub C dL_law_23 ?_
    have hLi : (Int32.ofNat L - 6).toInt = (L : Int) - 6 := by
      have h1 : (Int32.ofNat L).toInt = L := nI_toInt (by omega)
      have h2 : (6 : Int32).toInt = 6 := by decide
      rw [Int32.toInt_sub, h1, h2]
      exact Int.bmod_eq_of_le (by omega) (by omega)
    refine dg_gt (tgt := 1938) C dL_law_24 (by decide) (fun c0 => ?_) (fun c0 => ?_)
    · refine dg_iconst C dL_law_1938 dc_iconst_1 ?_
      exact dg_ret C dL_law_1939
    have hlt : 6 * n + 6 ≤ L := by
      rw [Int32.lt_iff_toInt_lt, hLi, nI_toInt (by omega)] at c0
      omega
    have hn : n < 512 := by omega
    have hx : ∀ j : Int32, (0 ≤ j.toInt ∧ j.toInt < 6) → vp_in (nI (6 * n) + j) L ∧ xs (nI (6 * n) + j).toNatClampNeg = xs (6 * n + j.toInt.toNat) := by
      intro j hj
      have e1 : j = nI j.toInt.toNat := by
        apply Int32.toInt_inj.mp
        rw [nI_toInt (by omega)]
        omega
      rw [e1, nI_add]
      have e2 := nI_clamp (n := 6 * n + j.toInt.toNat) (by omega)
      rw [← e1]
      refine ⟨?_, by rw [e2]⟩
      unfold vp_in
      rw [e2]
      intro h
      rcases h with h | h
      · rw [Int32.lt_iff_toInt_lt, nI_toInt (by omega)] at h
        exact absurd h (by show ¬ _ < (0 : Int32).toInt; rw [show (0 : Int32).toInt = 0 from rfl]; omega)
      · omega
    have kk : ∀ S2, dk_I (n + 1) S2 → dk_JL p l e s m below meth c g b 1932 [(0, .ref b), (1, .ref (g.1 0)), (2, .ref (g.1 82)), (3, .int (nI (6 * n)))] [] S2 := by
      intro S2 hI2
      refine dg_iinc (v := nI (6 * (n + 1))) (lv2 := [(0, .ref b), (1, .ref (g.1 0)), (2, .ref (g.1 82)), (3, .int (nI (6 * (n + 1))))]) C 3 rfl [1, 2, 3, 0] dL_law_1932 dc_iconst_6 (nI_add (6 * n) 6) (by decide) rfl ?_
      refine dg_goto (tgt := 18) C dL_law_1935 (by decide) ?_
      exact ih (n + 1) S2 (by omega) (by omega) hI2
    refine dg_aload_n C 0 rfl dL_law_27 ?_
    refine dg_iload_n C 3 rfl dL_law_28 ?_
    have hx0 := hx 0 (by decide)
    rw [Int32.add_zero] at hx0
    refine dg_sld C hx0.1 hx0.2 dL_law_29 ?_
    refine dg_bipush C dL_law_30 dc_bipush_63 ?_
    refine dg_iand C dL_law_32 ?_
    have hv := dk_and63 (xs (6 * n + (0 : Int32).toInt.toNat))
    generalize (xs (6 * n + (0 : Int32).toInt.toNat) &&& 63) = v at hv ⊢
    by_cases e0 : v = 0
    · refine dg_tin (off := 195) (tgt := 228) C dL_law_33 (by rw [e0]; decide) (by rw [e0]; decide) (by rw [e0]; rfl) (by decide) ?_
      exact lc_0 C hn hI (hx 1 (by decide)) (hx 2 (by decide)) kk
    by_cases e1 : v = 1
    · refine dg_tin (off := 228) (tgt := 261) C dL_law_33 (by rw [e1]; decide) (by rw [e1]; decide) (by rw [e1]; rfl) (by decide) ?_
      exact lc_1 C hn hI (hx 1 (by decide)) (hx 2 (by decide)) (hx 3 (by decide)) kk
    by_cases e2 : v = 2
    · refine dg_tin (off := 271) (tgt := 304) C dL_law_33 (by rw [e2]; decide) (by rw [e2]; decide) (by rw [e2]; rfl) (by decide) ?_
      exact lc_2 C hn hI (hx 1 (by decide)) (hx 2 (by decide)) kk
    by_cases e3 : v = 3
    · refine dg_tin (off := 304) (tgt := 337) C dL_law_33 (by rw [e3]; decide) (by rw [e3]; decide) (by rw [e3]; rfl) (by decide) ?_
      exact lc_3 C hn hI (hx 1 (by decide)) kk
    by_cases e4 : v = 4
    · refine dg_tin (off := 327) (tgt := 360) C dL_law_33 (by rw [e4]; decide) (by rw [e4]; decide) (by rw [e4]; rfl) (by decide) ?_
      exact lc_4 C hn hI (hx 1 (by decide)) (hx 2 (by decide)) (hx 3 (by decide)) (hx 4 (by decide)) (hx 5 (by decide)) kk
    by_cases e5 : v = 5
    · refine dg_tin (off := 390) (tgt := 423) C dL_law_33 (by rw [e5]; decide) (by rw [e5]; decide) (by rw [e5]; rfl) (by decide) ?_
      exact lc_5 C hn hI (hx 1 (by decide)) kk
    by_cases e6 : v = 6
    · refine dg_tin (off := 413) (tgt := 446) C dL_law_33 (by rw [e6]; decide) (by rw [e6]; decide) (by rw [e6]; rfl) (by decide) ?_
      exact lc_6 C hn hI (hx 1 (by decide)) (hx 2 (by decide)) kk
    by_cases e7 : v = 7
    · refine dg_tin (off := 446) (tgt := 479) C dL_law_33 (by rw [e7]; decide) (by rw [e7]; decide) (by rw [e7]; rfl) (by decide) ?_
      exact lc_7 C hn hI (hx 1 (by decide)) (hx 2 (by decide)) (hx 3 (by decide)) kk
    by_cases e8 : v = 8
    · refine dg_tin (off := 489) (tgt := 522) C dL_law_33 (by rw [e8]; decide) (by rw [e8]; decide) (by rw [e8]; rfl) (by decide) ?_
      exact lc_8 C hn hI (hx 1 (by decide)) (hx 2 (by decide)) kk
    by_cases e9 : v = 9
    · refine dg_tin (off := 538) (tgt := 571) C dL_law_33 (by rw [e9]; decide) (by rw [e9]; decide) (by rw [e9]; rfl) (by decide) ?_
      exact lc_9 C hn hI (hx 1 (by decide)) (hx 2 (by decide)) kk
    by_cases e10 : v = 10
    · refine dg_tin (off := 571) (tgt := 604) C dL_law_33 (by rw [e10]; decide) (by rw [e10]; decide) (by rw [e10]; rfl) (by decide) ?_
      exact lc_10 C hn hI (hx 1 (by decide)) (hx 2 (by decide)) kk
    by_cases e11 : v = 11
    · refine dg_tin (off := 604) (tgt := 637) C dL_law_33 (by rw [e11]; decide) (by rw [e11]; decide) (by rw [e11]; rfl) (by decide) ?_
      exact lc_11 C hn hI (hx 1 (by decide)) (hx 2 (by decide)) kk
    by_cases e12 : v = 12
    · refine dg_tin (off := 637) (tgt := 670) C dL_law_33 (by rw [e12]; decide) (by rw [e12]; decide) (by rw [e12]; rfl) (by decide) ?_
      exact lc_12 C hn hI (hx 1 (by decide)) (hx 2 (by decide)) kk
    by_cases e13 : v = 13
    · refine dg_tin (off := 670) (tgt := 703) C dL_law_33 (by rw [e13]; decide) (by rw [e13]; decide) (by rw [e13]; rfl) (by decide) ?_
      exact lc_13 C hn hI (hx 1 (by decide)) (hx 2 (by decide)) (hx 3 (by decide)) kk
    by_cases e14 : v = 14
    · refine dg_tin (off := 713) (tgt := 746) C dL_law_33 (by rw [e14]; decide) (by rw [e14]; decide) (by rw [e14]; rfl) (by decide) ?_
      exact lc_14 C hn hI (hx 1 (by decide)) (hx 2 (by decide)) (hx 3 (by decide)) (hx 4 (by decide)) (hx 5 (by decide)) kk
    by_cases e15 : v = 15
    · refine dg_tin (off := 776) (tgt := 809) C dL_law_33 (by rw [e15]; decide) (by rw [e15]; decide) (by rw [e15]; rfl) (by decide) ?_
      exact lc_15 C hn hI (hx 1 (by decide)) kk
    by_cases e16 : v = 16
    · refine dg_tin (off := 799) (tgt := 832) C dL_law_33 (by rw [e16]; decide) (by rw [e16]; decide) (by rw [e16]; rfl) (by decide) ?_
      exact lc_16 C hn hI (hx 1 (by decide)) kk
    by_cases e17 : v = 17
    · refine dg_tin (off := 822) (tgt := 855) C dL_law_33 (by rw [e17]; decide) (by rw [e17]; decide) (by rw [e17]; rfl) (by decide) ?_
      exact lc_17 C hn hI (hx 1 (by decide)) (hx 2 (by decide)) kk
    by_cases e18 : v = 18
    · refine dg_tin (off := 855) (tgt := 888) C dL_law_33 (by rw [e18]; decide) (by rw [e18]; decide) (by rw [e18]; rfl) (by decide) ?_
      exact lc_18 C hn hI (hx 1 (by decide)) kk
    by_cases e19 : v = 19
    · refine dg_tin (off := 878) (tgt := 911) C dL_law_33 (by rw [e19]; decide) (by rw [e19]; decide) (by rw [e19]; rfl) (by decide) ?_
      exact lc_19 C hn hI (hx 1 (by decide)) kk
    by_cases e20 : v = 20
    · refine dg_tin (off := 901) (tgt := 934) C dL_law_33 (by rw [e20]; decide) (by rw [e20]; decide) (by rw [e20]; rfl) (by decide) ?_
      exact lc_20 C hn hI (hx 1 (by decide)) kk
    by_cases e21 : v = 21
    · refine dg_tin (off := 924) (tgt := 957) C dL_law_33 (by rw [e21]; decide) (by rw [e21]; decide) (by rw [e21]; rfl) (by decide) ?_
      exact lc_21 C hn hI  kk
    by_cases e22 : v = 22
    · refine dg_tin (off := 937) (tgt := 970) C dL_law_33 (by rw [e22]; decide) (by rw [e22]; decide) (by rw [e22]; rfl) (by decide) ?_
      exact lc_22 C hn hI (hx 1 (by decide)) (hx 2 (by decide)) (hx 3 (by decide)) (hx 4 (by decide)) kk
    by_cases e23 : v = 23
    · refine dg_tin (off := 990) (tgt := 1023) C dL_law_33 (by rw [e23]; decide) (by rw [e23]; decide) (by rw [e23]; rfl) (by decide) ?_
      exact lc_23 C hn hI (hx 1 (by decide)) (hx 2 (by decide)) (hx 3 (by decide)) (hx 4 (by decide)) (hx 5 (by decide)) kk
    by_cases e24 : v = 24
    · refine dg_tin (off := 1053) (tgt := 1086) C dL_law_33 (by rw [e24]; decide) (by rw [e24]; decide) (by rw [e24]; rfl) (by decide) ?_
      exact lc_24 C hn hI (hx 1 (by decide)) (hx 2 (by decide)) (hx 3 (by decide)) (hx 4 (by decide)) kk
    by_cases e25 : v = 25
    · refine dg_tin (off := 1106) (tgt := 1139) C dL_law_33 (by rw [e25]; decide) (by rw [e25]; decide) (by rw [e25]; rfl) (by decide) ?_
      exact lc_25 C hn hI (hx 1 (by decide)) (hx 2 (by decide)) (hx 3 (by decide)) kk
    by_cases e26 : v = 26
    · refine dg_tin (off := 1149) (tgt := 1182) C dL_law_33 (by rw [e26]; decide) (by rw [e26]; decide) (by rw [e26]; rfl) (by decide) ?_
      exact lc_26 C hn hI (hx 1 (by decide)) (hx 2 (by decide)) (hx 3 (by decide)) (hx 4 (by decide)) (hx 5 (by decide)) kk
    by_cases e27 : v = 27
    · refine dg_tin (off := 1212) (tgt := 1245) C dL_law_33 (by rw [e27]; decide) (by rw [e27]; decide) (by rw [e27]; rfl) (by decide) ?_
      exact lc_27 C hn hI (hx 1 (by decide)) (hx 2 (by decide)) (hx 3 (by decide)) kk
    by_cases e28 : v = 28
    · refine dg_tin (off := 1255) (tgt := 1288) C dL_law_33 (by rw [e28]; decide) (by rw [e28]; decide) (by rw [e28]; rfl) (by decide) ?_
      exact lc_28 C hn hI (hx 1 (by decide)) (hx 2 (by decide)) (hx 3 (by decide)) (hx 4 (by decide)) kk
    by_cases e29 : v = 29
    · refine dg_tin (off := 1308) (tgt := 1341) C dL_law_33 (by rw [e29]; decide) (by rw [e29]; decide) (by rw [e29]; rfl) (by decide) ?_
      exact lc_29 C hn hI (hx 1 (by decide)) (hx 2 (by decide)) (hx 3 (by decide)) kk
    by_cases e30 : v = 30
    · refine dg_tin (off := 1351) (tgt := 1384) C dL_law_33 (by rw [e30]; decide) (by rw [e30]; decide) (by rw [e30]; rfl) (by decide) ?_
      exact lc_30 C hn hI (hx 1 (by decide)) (hx 2 (by decide)) (hx 3 (by decide)) kk
    by_cases e31 : v = 31
    · refine dg_tin (off := 1394) (tgt := 1427) C dL_law_33 (by rw [e31]; decide) (by rw [e31]; decide) (by rw [e31]; rfl) (by decide) ?_
      exact lc_31 C hn hI (hx 1 (by decide)) (hx 2 (by decide)) (hx 3 (by decide)) (hx 4 (by decide)) kk
    by_cases e32 : v = 32
    · refine dg_tin (off := 1447) (tgt := 1480) C dL_law_33 (by rw [e32]; decide) (by rw [e32]; decide) (by rw [e32]; rfl) (by decide) ?_
      exact lc_32 C hn hI (hx 1 (by decide)) (hx 2 (by decide)) (hx 3 (by decide)) (hx 4 (by decide)) kk
    by_cases e33 : v = 33
    · refine dg_tin (off := 1500) (tgt := 1533) C dL_law_33 (by rw [e33]; decide) (by rw [e33]; decide) (by rw [e33]; rfl) (by decide) ?_
      exact lc_33 C hn hI (hx 1 (by decide)) (hx 2 (by decide)) (hx 3 (by decide)) (hx 4 (by decide)) kk
    by_cases e34 : v = 34
    · refine dg_tin (off := 1553) (tgt := 1586) C dL_law_33 (by rw [e34]; decide) (by rw [e34]; decide) (by rw [e34]; rfl) (by decide) ?_
      exact lc_34 C hn hI (hx 1 (by decide)) (hx 2 (by decide)) (hx 3 (by decide)) (hx 4 (by decide)) (hx 5 (by decide)) kk
    by_cases e35 : v = 35
    · refine dg_tin (off := 1616) (tgt := 1649) C dL_law_33 (by rw [e35]; decide) (by rw [e35]; decide) (by rw [e35]; rfl) (by decide) ?_
      exact lc_35 C hn hI (hx 1 (by decide)) (hx 2 (by decide)) (hx 3 (by decide)) kk
    by_cases e36 : v = 36
    · refine dg_tin (off := 1659) (tgt := 1692) C dL_law_33 (by rw [e36]; decide) (by rw [e36]; decide) (by rw [e36]; rfl) (by decide) ?_
      exact lc_36 C hn hI (hx 1 (by decide)) (hx 2 (by decide)) (hx 3 (by decide)) (hx 4 (by decide)) (hx 5 (by decide)) kk
    by_cases e37 : v = 37
    · refine dg_tin (off := 1722) (tgt := 1755) C dL_law_33 (by rw [e37]; decide) (by rw [e37]; decide) (by rw [e37]; rfl) (by decide) ?_
      exact lc_37 C hn hI (hx 1 (by decide)) (hx 2 (by decide)) (hx 3 (by decide)) (hx 4 (by decide)) (hx 5 (by decide)) kk
    by_cases e38 : v = 38
    · refine dg_tin (off := 1785) (tgt := 1818) C dL_law_33 (by rw [e38]; decide) (by rw [e38]; decide) (by rw [e38]; rfl) (by decide) ?_
      exact lc_38 C hn hI  kk
    by_cases e39 : v = 39
    · refine dg_tin (off := 1798) (tgt := 1831) C dL_law_33 (by rw [e39]; decide) (by rw [e39]; decide) (by rw [e39]; rfl) (by decide) ?_
      exact lc_39 C hn hI  kk
    by_cases e40 : v = 40
    · refine dg_tin (off := 1812) (tgt := 1845) C dL_law_33 (by rw [e40]; decide) (by rw [e40]; decide) (by rw [e40]; rfl) (by decide) ?_
      exact lc_40 C hn hI  kk
    by_cases e41 : v = 41
    · refine dg_tin (off := 1826) (tgt := 1859) C dL_law_33 (by rw [e41]; decide) (by rw [e41]; decide) (by rw [e41]; rfl) (by decide) ?_
      exact lc_41 C hn hI (hx 1 (by decide)) kk
    by_cases e42 : v = 42
    · refine dg_tin (off := 1849) (tgt := 1882) C dL_law_33 (by rw [e42]; decide) (by rw [e42]; decide) (by rw [e42]; rfl) (by decide) ?_
      exact lc_42 C hn hI  kk
    by_cases e43 : v = 43
    · refine dg_tin (off := 1862) (tgt := 1895) C dL_law_33 (by rw [e43]; decide) (by rw [e43]; decide) (by rw [e43]; rfl) (by decide) ?_
      exact lc_43 C hn hI (hx 1 (by decide)) kk
    by_cases e44 : v = 44
    · refine dg_tin (off := 1885) (tgt := 1918) C dL_law_33 (by rw [e44]; decide) (by rw [e44]; decide) (by rw [e44]; rfl) (by decide) ?_
      exact lc_44 C hn hI  kk
    refine dg_tout (tgt := 1932) C dL_law_33 ?_ (by decide) (kk _ (dk_I_up hI))
    have n0 : v.toInt ≠ 0 := fun e => e0 (dk_teq e (by decide))
    have n1 : v.toInt ≠ 1 := fun e => e1 (dk_teq e (by decide))
    have n2 : v.toInt ≠ 2 := fun e => e2 (dk_teq e (by decide))
    have n3 : v.toInt ≠ 3 := fun e => e3 (dk_teq e (by decide))
    have n4 : v.toInt ≠ 4 := fun e => e4 (dk_teq e (by decide))
    have n5 : v.toInt ≠ 5 := fun e => e5 (dk_teq e (by decide))
    have n6 : v.toInt ≠ 6 := fun e => e6 (dk_teq e (by decide))
    have n7 : v.toInt ≠ 7 := fun e => e7 (dk_teq e (by decide))
    have n8 : v.toInt ≠ 8 := fun e => e8 (dk_teq e (by decide))
    have n9 : v.toInt ≠ 9 := fun e => e9 (dk_teq e (by decide))
    have n10 : v.toInt ≠ 10 := fun e => e10 (dk_teq e (by decide))
    have n11 : v.toInt ≠ 11 := fun e => e11 (dk_teq e (by decide))
    have n12 : v.toInt ≠ 12 := fun e => e12 (dk_teq e (by decide))
    have n13 : v.toInt ≠ 13 := fun e => e13 (dk_teq e (by decide))
    have n14 : v.toInt ≠ 14 := fun e => e14 (dk_teq e (by decide))
    have n15 : v.toInt ≠ 15 := fun e => e15 (dk_teq e (by decide))
    have n16 : v.toInt ≠ 16 := fun e => e16 (dk_teq e (by decide))
    have n17 : v.toInt ≠ 17 := fun e => e17 (dk_teq e (by decide))
    have n18 : v.toInt ≠ 18 := fun e => e18 (dk_teq e (by decide))
    have n19 : v.toInt ≠ 19 := fun e => e19 (dk_teq e (by decide))
    have n20 : v.toInt ≠ 20 := fun e => e20 (dk_teq e (by decide))
    have n21 : v.toInt ≠ 21 := fun e => e21 (dk_teq e (by decide))
    have n22 : v.toInt ≠ 22 := fun e => e22 (dk_teq e (by decide))
    have n23 : v.toInt ≠ 23 := fun e => e23 (dk_teq e (by decide))
    have n24 : v.toInt ≠ 24 := fun e => e24 (dk_teq e (by decide))
    have n25 : v.toInt ≠ 25 := fun e => e25 (dk_teq e (by decide))
    have n26 : v.toInt ≠ 26 := fun e => e26 (dk_teq e (by decide))
    have n27 : v.toInt ≠ 27 := fun e => e27 (dk_teq e (by decide))
    have n28 : v.toInt ≠ 28 := fun e => e28 (dk_teq e (by decide))
    have n29 : v.toInt ≠ 29 := fun e => e29 (dk_teq e (by decide))
    have n30 : v.toInt ≠ 30 := fun e => e30 (dk_teq e (by decide))
    have n31 : v.toInt ≠ 31 := fun e => e31 (dk_teq e (by decide))
    have n32 : v.toInt ≠ 32 := fun e => e32 (dk_teq e (by decide))
    have n33 : v.toInt ≠ 33 := fun e => e33 (dk_teq e (by decide))
    have n34 : v.toInt ≠ 34 := fun e => e34 (dk_teq e (by decide))
    have n35 : v.toInt ≠ 35 := fun e => e35 (dk_teq e (by decide))
    have n36 : v.toInt ≠ 36 := fun e => e36 (dk_teq e (by decide))
    have n37 : v.toInt ≠ 37 := fun e => e37 (dk_teq e (by decide))
    have n38 : v.toInt ≠ 38 := fun e => e38 (dk_teq e (by decide))
    have n39 : v.toInt ≠ 39 := fun e => e39 (dk_teq e (by decide))
    have n40 : v.toInt ≠ 40 := fun e => e40 (dk_teq e (by decide))
    have n41 : v.toInt ≠ 41 := fun e => e41 (dk_teq e (by decide))
    have n42 : v.toInt ≠ 42 := fun e => e42 (dk_teq e (by decide))
    have n43 : v.toInt ≠ 43 := fun e => e43 (dk_teq e (by decide))
    have n44 : v.toInt ≠ 44 := fun e => e44 (dk_teq e (by decide))
    omega
set_option maxRecDepth 100000 in
set_option maxHeartbeats 8000000 in
/-- THE LAW, from its entry -/
theorem whole_start {p : Program} {e : Env} {s : State} {m : MethodId} {below : List Frame} {meth : Method} {c : Code} (l : Launch) (hflags : l.flags = flags0) {b L : Nat} {xs : Nat → Int32} (hL : L ≤ 3072) (C0 : lw_At p s m meth c b L xs) : W p l e room_1 s m #[Value.ref b] below meth c s.heap [] 0 0 (lw_Z below #[Value.ref b] s) (entryFrame m ([Value.ref b] : List Value).toArray 4) := by
  obtain ⟨hx, hb, hr, hml, hown, hts, hX, hbl, hlocks, hgv⟩ := C0
  obtain ⟨c0, iS0, hKn0⟩ := u_known (C := RX0) (T := TX0) (N := 10) (n := 10) hts (fun w h => dk_tb_in (dl_ws0 w h)) (hts (.instantiable RX0 10) (dk_tb_in (dk_m1 33 rfl rfl)))
  obtain ⟨c1, iS1, hKn1⟩ := u_known (C := RX1) (T := TX1) (N := 3) (n := 3) hts (fun w h => dk_tb_in (dl_ws1 w h)) (hts (.instantiable RX1 3) (dk_tb_in (dk_m1 39 rfl rfl)))
  obtain ⟨c2, iS2, hKn2⟩ := u_known (C := RX2) (T := TX2) (N := 4) (n := 4) hts (fun w h => dk_tb_in (dl_ws2 w h)) (hts (.instantiable RX2 4) (dk_tb_in (dk_m1 198 rfl rfl)))
  obtain ⟨c3, iS3, hKn3⟩ := u_known (C := RX3) (T := TX3) (N := 3) (n := 3) hts (fun w h => dk_tb_in (dl_ws3 w h)) (hts (.instantiable RX3 3) (dk_tb_in (dk_m1 63 rfl rfl)))
  obtain ⟨c4, iS4, hKn4⟩ := u_known (C := RX4) (T := TX4) (N := 4) (n := 4) hts (fun w h => dk_tb_in (dl_ws4 w h)) (hts (.instantiable RX4 4) (dk_tb_in (dk_m1 134 rfl rfl)))
  obtain ⟨c5, iS5, hKn5⟩ := u_known (C := RX5) (T := TX5) (N := 2) (n := 2) hts (fun w h => dk_tb_in (dl_ws5 w h)) (hts (.instantiable RX5 2) (dk_tb_in (dk_m1 220 rfl rfl)))
  obtain ⟨c6, iS6, hKn6⟩ := u_known (C := RX6) (T := TX6) (N := 2) (n := 2) hts (fun w h => dk_tb_in (dl_ws6 w h)) (hts (.instantiable RX6 2) (dk_tb_in (dk_m1 236 rfl rfl)))
  obtain ⟨c7, iS7, hKn7⟩ := u_known (C := RX7) (T := TX7) (N := 8) (n := 8) hts (fun w h => dk_tb_in (dl_ws7 w h)) (hts (.instantiable RX7 8) (dk_tb_in (dk_m1 160 rfl rfl)))
  obtain ⟨c8, iS8, hKn8⟩ := u_known (C := RX8) (T := TX8) (N := 15) (n := 15) hts (fun w h => dk_tb_in (dl_ws8 w h)) (hts (.instantiable RX8 15) (dk_tb_in (dk_m1 17 rfl rfl)))
  obtain ⟨c9, iS9, hKn9⟩ := u_known (C := RX9) (T := TX9) (N := 41) (n := 41) hts (fun w h => dk_tb_in (dl_ws9 w h)) (hts (.instantiable RX9 41) (dk_tb_in (dk_m4 122 rfl rfl)))
  obtain ⟨dC, dI, hKc⟩ : ∃ (dC : Nat → ClassId) (dI : Nat → Nat → Nat), ∀ (k : Nat) (q : vw_C), vwCl[k]? = some q → u_Kn s q.1 q.2.1 q.2.2 (dC k) (dI k) := by
    refine ⟨fun k => if k = 0 then c0 else if k = 1 then c1 else if k = 2 then c2 else if k = 3 then c3 else if k = 4 then c4 else if k = 5 then c5 else if k = 6 then c6 else if k = 7 then c7 else if k = 8 then c8 else c9, fun k => if k = 0 then iS0 else if k = 1 then iS1 else if k = 2 then iS2 else if k = 3 then iS3 else if k = 4 then iS4 else if k = 5 then iS5 else if k = 6 then iS6 else if k = 7 then iS7 else if k = 8 then iS8 else iS9, ?_⟩
    intro k q hq
    have hk : k < 10 := (List.getElem?_eq_some_iff.mp hq).1
    rcases (show k = 0 ∨ k = 1 ∨ k = 2 ∨ k = 3 ∨ k = 4 ∨ k = 5 ∨ k = 6 ∨ k = 7 ∨ k = 8 ∨ k = 9 by omega) with rfl | rfl | rfl | rfl | rfl | rfl | rfl | rfl | rfl | rfl
    · cases hq; exact hKn0
    · cases hq; exact hKn1
    · cases hq; exact hKn2
    · cases hq; exact hKn3
    · cases hq; exact hKn4
    · cases hq; exact hKn5
    · cases hq; exact hKn6
    · cases hq; exact hKn7
    · cases hq; exact hKn8
    · cases hq; exact hKn9
  obtain ⟨a0, ha0⟩ : ∃ a : ClassId, ArrOfT s a .int ∧ va_RA s a .int := by
    obtain ⟨a, k, comp, h1, h2, h3⟩ := Cond.arrayClass_spec (hts _ (dk_tb1 _ (List.mem_of_getElem? (i := 61) rfl)))
    exact ⟨a, fun n z => ⟨fun k h => (by cases h), k, h2, comp, h3⟩, h1⟩
  obtain ⟨a1, ha1⟩ : ∃ a : ClassId, ArrOfT s a .byte ∧ va_RA s a .byte := by
    obtain ⟨a, k, comp, h1, h2, h3⟩ := Cond.arrayClass_spec (hts _ (dk_tb2 _ (List.mem_of_getElem? (i := 10) rfl)))
    exact ⟨a, fun n z => ⟨fun k h => (by cases h), k, h2, comp, h3⟩, h1⟩
  obtain ⟨a2, ha2⟩ : ∃ a : ClassId, ArrOfT s a .boolean ∧ va_RA s a .boolean := by
    obtain ⟨a, k, comp, h1, h2, h3⟩ := Cond.arrayClass_spec (hts _ (dk_tb5 _ (List.mem_of_getElem? (i := 11) rfl)))
    exact ⟨a, fun n z => ⟨fun k h => (by cases h), k, h2, comp, h3⟩, h1⟩
  obtain ⟨a3, ha3⟩ : ∃ a : ClassId, ArrOfT s a .long ∧ va_RA s a .long := by
    obtain ⟨a, k, comp, h1, h2, h3⟩ := Cond.arrayClass_spec (hts _ (dk_tb1 _ (List.mem_of_getElem? (i := 196) rfl)))
    exact ⟨a, fun n z => ⟨fun k h => (by cases h), k, h2, comp, h3⟩, h1⟩
  obtain ⟨a4, ha4⟩ : ∃ a : ClassId, ArrOfT s a (.object "DuckWalk$Row") ∧ va_RA s a (.object "DuckWalk$Row") := by
    obtain ⟨comp, a, k, h1, h2, h3, h4, h5⟩ := Cond.arrayOver_spec (hts _ (dk_tb1 _ (List.mem_of_getElem? (i := 25) rfl)))
    exact ⟨a, fun n z => ⟨fun k h => (by cases h), k, h3, comp, h4⟩, k, comp, h3, h4, h1, h5⟩
  obtain ⟨a5, ha5⟩ : ∃ a : ClassId, ArrOfT s a (.object "DuckWalk$Script") ∧ va_RA s a (.object "DuckWalk$Script") := by
    obtain ⟨comp, a, k, h1, h2, h3, h4, h5⟩ := Cond.arrayOver_spec (hts _ (dk_tb1 _ (List.mem_of_getElem? (i := 27) rfl)))
    exact ⟨a, fun n z => ⟨fun k h => (by cases h), k, h3, comp, h4⟩, k, comp, h3, h4, h1, h5⟩
  obtain ⟨a6, ha6⟩ : ∃ a : ClassId, ArrOfT s a (.object "DuckWalk$Duck") ∧ va_RA s a (.object "DuckWalk$Duck") := by
    obtain ⟨comp, a, k, h1, h2, h3, h4, h5⟩ := Cond.arrayOver_spec (hts _ (dk_tb1 _ (List.mem_of_getElem? (i := 29) rfl)))
    exact ⟨a, fun n z => ⟨fun k h => (by cases h), k, h3, comp, h4⟩, k, comp, h3, h4, h1, h5⟩
  obtain ⟨a7, ha7⟩ : ∃ a : ClassId, ArrOfT s a (.object "DuckWalk$Plank") ∧ va_RA s a (.object "DuckWalk$Plank") := by
    obtain ⟨comp, a, k, h1, h2, h3, h4, h5⟩ := Cond.arrayOver_spec (hts _ (dk_tb1 _ (List.mem_of_getElem? (i := 31) rfl)))
    exact ⟨a, fun n z => ⟨fun k h => (by cases h), k, h3, comp, h4⟩, k, comp, h3, h4, h1, h5⟩
  obtain ⟨a8, ha8⟩ : ∃ a : ClassId, ArrOfT s a (.object "DuckWalk$Course") ∧ va_RA s a (.object "DuckWalk$Course") := by
    obtain ⟨comp, a, k, h1, h2, h3, h4, h5⟩ := Cond.arrayOver_spec (hts _ (dk_tb1 _ (List.mem_of_getElem? (i := 132) rfl)))
    exact ⟨a, fun n z => ⟨fun k h => (by cases h), k, h3, comp, h4⟩, k, comp, h3, h4, h1, h5⟩
  obtain ⟨cA, hcA⟩ : ∃ cA : Nat → ClassId, cA 0 = a0 ∧ cA 1 = a1 ∧ cA 2 = a2 ∧ cA 3 = a3 ∧ cA 4 = a4 ∧ cA 5 = a5 ∧ cA 6 = a6 ∧ cA 7 = a7 ∧ cA 8 = a8 := ⟨fun k => if k = 0 then a0 else if k = 1 then a1 else if k = 2 then a2 else if k = 3 then a3 else if k = 4 then a4 else if k = 5 then a5 else if k = 6 then a6 else if k = 7 then a7 else a8, rfl, rfl, rfl, rfl, rfl, rfl, rfl, rfl, rfl⟩
  obtain ⟨rfl, rfl, rfl, rfl, rfl, rfl, rfl, rfl, rfl⟩ := hcA
  have hK : va_K (dC, dI) vwCl (dk_tys (id, (dC, dI), cA)) s := by
    refine ⟨hKc, fun k q hq => ?_⟩
    have hk : k < 9 := (List.getElem?_eq_some_iff.mp hq).1
    rcases (show k = 0 ∨ k = 1 ∨ k = 2 ∨ k = 3 ∨ k = 4 ∨ k = 5 ∨ k = 6 ∨ k = 7 ∨ k = 8 by omega) with rfl | rfl | rfl | rfl | rfl | rfl | rfl | rfl | rfl
    · cases hq; exact ha0
    · cases hq; exact ha1
    · cases hq; exact ha2
    · cases hq; exact ha3
    · cases hq; exact ha4
    · cases hq; exact ha5
    · cases hq; exact ha6
    · cases hq; exact ha7
    · cases hq; exact ha8
  have hNA : dk_NA s := by
    unfold dk_NA dk_nwa
    simp only [List.forall_mem_cons]
    exact ⟨va_Nw.of rfl (hts _ (dk_tb1 _ (List.mem_of_getElem? (i := 34) rfl))), va_Nw.of rfl (hts _ (dk_tb1 _ (List.mem_of_getElem? (i := 40) rfl))), va_Nw.of rfl (hts _ (dk_tb1 _ (List.mem_of_getElem? (i := 64) rfl))), va_Nw.of rfl (hts _ (dk_tb1 _ (List.mem_of_getElem? (i := 135) rfl))), va_Nw.of rfl (hts _ (dk_tb1 _ (List.mem_of_getElem? (i := 140) rfl))), va_Nw.of rfl (hts _ (dk_tb1 _ (List.mem_of_getElem? (i := 142) rfl))), va_Nw.of rfl (hts _ (dk_tb1 _ (List.mem_of_getElem? (i := 161) rfl))), va_Nw.of rfl (hts _ (dk_tb1 _ (List.mem_of_getElem? (i := 166) rfl))), va_Nw.of rfl (hts _ (dk_tb1 _ (List.mem_of_getElem? (i := 199) rfl))), va_Nw.of rfl (hts _ (dk_tb1 _ (List.mem_of_getElem? (i := 221) rfl))), va_Nw.of rfl (hts _ (dk_tb1 _ (List.mem_of_getElem? (i := 237) rfl))), va_Nw.of rfl (hts _ (dk_tb2 _ (List.mem_of_getElem? (i := 11) rfl))), va_Nw.of rfl (hts _ (dk_tb2 _ (List.mem_of_getElem? (i := 12) rfl))), va_Nw.of rfl (hts _ (dk_tb2 _ (List.mem_of_getElem? (i := 176) rfl))), va_Nw.of rfl (hts _ (dk_tb3 _ (List.mem_of_getElem? (i := 4) rfl))), va_Nw.of rfl (hts _ (dk_tb3 _ (List.mem_of_getElem? (i := 13) rfl))), va_Nw.of rfl (hts _ (dk_tb3 _ (List.mem_of_getElem? (i := 128) rfl))), fun _ h => absurd h List.not_mem_nil⟩
  have hAO : dk_AO s := by
    unfold dk_AO
    simp only [List.forall_mem_cons]
    exact ⟨va_AO.of (hts _ (dk_tb1 _ (List.mem_of_getElem? (i := 25) rfl))), va_AO.of (hts _ (dk_tb1 _ (List.mem_of_getElem? (i := 27) rfl))), va_AO.of (hts _ (dk_tb1 _ (List.mem_of_getElem? (i := 29) rfl))), va_AO.of (hts _ (dk_tb1 _ (List.mem_of_getElem? (i := 31) rfl))), va_AO.of (hts _ (dk_tb1 _ (List.mem_of_getElem? (i := 132) rfl))), fun _ h => absurd h List.not_mem_nil⟩
  have hN : dk_N s := by
    unfold dk_N dk_nws
    simp only [List.forall_mem_cons]
    exact ⟨va_Nw.of rfl (hts _ (dk_tb3 _ (List.mem_of_getElem? (i := 4) rfl))), va_Nw.of rfl (hts _ (dk_tb3 _ (List.mem_of_getElem? (i := 13) rfl))), va_Nw.of rfl (hts _ (dk_tb2 _ (List.mem_of_getElem? (i := 176) rfl))), va_Nw.of rfl (hts _ (dk_tb3 _ (List.mem_of_getElem? (i := 128) rfl))), fun _ h => absurd h List.not_mem_nil⟩
  have C : dk_K0 p s m #[Value.ref b] meth c (dC, dI) cA s.heap.size code "DuckWalkLaw" 4 := ⟨hx, hb, hml, hown, fun w hw => hts w (dk_tb_in hw), hlocks, hNA, hAO, hK, Nat.le_refl _⟩
  have hl := lv_entry ([.ref b]) (n := 4) (Nat.le_of_ble_eq_true rfl)
  rw [lg_entry_eq]
  suffices hJ : dk_JQ p l e room_1 s m #[Value.ref b] below meth c (dC, dI) s.heap.size 4 (lw_Z below #[Value.ref b] s) 0 [(0, .ref b)] [] [] 0 0 from hJ s.heap [] _ (fun k q h => by simp at h) ⟨fun i j p q h => by simp at h, fun k q h => by simp at h⟩ va_S.rf hl
  refine dq_new (nc2 := 1) (ns2 := 15) C dnw_L_7 (Nat.le_of_ble_eq_true rfl) (Nat.le_of_ble_eq_true rfl) rfl rfl dL_law_0 (fun q0 => ?_)
  refine dq_ws (ws2 := [(q0, .inr (8, [.null, .null, .null, .null, .null, .null, .null, .null, .null, .null, .null, .int 0, .int 0, .long 0, .long 0]))]) rfl ?_
  refine dq_dup C dL_law_3 rfl ?_
  refine dq_init (nc2 := 82) (ns2 := 2651) C dwi_L_9 (ci_X8 l (dC, dI) cA _ _ 0 q0 rfl) ⟨Nat.le_of_ble_eq_true rfl, Nat.le_of_ble_eq_true rfl⟩ (Nat.le_of_ble_eq_true rfl) (Nat.le_of_ble_eq_true rfl) rfl rfl (Nat.le_of_ble_eq_true rfl) dL_law_4 (fun x8 => ?_)
  refine dq_astore_n (lv2 := [(0, .ref b), (1, .ref q0)]) C [1, 0] dL_law_7 rfl (by decide) rfl ?_
  refine dq_ws (ws2 := (q0, .inr (8, [.ref (x8 0), .ref (x8 1), .ref (x8 2), .ref (x8 3), .ref (x8 4), .ref (x8 9), .ref (x8 10), .ref (x8 15), .ref (x8 23), .ref (x8 28), .ref (x8 29), .int 0, .int 0, .long 0, .long 1])) :: [(x8 0, .inl (cA 4, 6, .inr (.inr (.inr (.inr (va_up (va_up (va_up (va_up (va_up (va_up (fun _ => none) 0 (some (x8 30))) 1 (some (x8 32))) 2 (some (x8 34))) 3 (some (x8 36))) 4 (some (x8 38))) 5 (some (x8 40)))))))), (x8 1, .inl (cA 5, 4, .inr (.inr (.inr (.inr (va_up (va_up (va_up (va_up (fun _ => none) 0 (some (x8 42))) 1 (some (x8 44))) 2 (some (x8 46))) 3 (some (x8 48)))))))), (x8 2, .inl (cA 6, 4, .inr (.inr (.inr (.inr (va_up (va_up (va_up (va_up (fun _ => none) 0 (some (x8 50))) 1 (some (x8 52))) 2 (some (x8 54))) 3 (some (x8 56)))))))), (x8 3, .inl (cA 7, 4, .inr (.inr (.inr (.inr (va_up (va_up (va_up (va_up (fun _ => none) 0 (some (x8 58))) 1 (some (x8 60))) 2 (some (x8 62))) 3 (some (x8 64)))))))), (x8 4, .inr (0, [.ref (x8 5), .ref (x8 7), .int 0, .int 0, .int 0, .int 0, .int 0, .int 0, .int 0, .int 0])), (x8 5, .inr (1, [.ref (x8 6), .int 0, .int 0])), (x8 6, .inl (cA 0, 6, .inl (fun _ => 0))), (x8 7, .inr (3, [.ref (x8 8), .int 1, .int 0])), (x8 8, .inl (cA 0, 100, .inl (fun _ => 0))), (x8 9, .inl (cA 8, 3, .inr (.inr (.inr (.inr (va_up (va_up (va_up (fun _ => none) 0 (some (x8 66))) 1 (some (x8 71))) 2 (some (x8 76)))))))), (x8 10, .inr (4, [.ref (x8 11), .ref (x8 13), .int 0, .int (-9)])), (x8 11, .inr (1, [.ref (x8 12), .int 0, .int 0])), (x8 12, .inl (cA 0, 6, .inl (fun _ => 0))), (x8 13, .inr (3, [.ref (x8 14), .int 1, .int 0])), (x8 14, .inl (cA 0, 100, .inl (fun _ => 0))), (x8 15, .inr (7, [.ref (x8 16), .int 0, .int 0, .int 0, .int 0, .ref (x8 21), .ref (x8 22), .long 0])), (x8 16, .inr (0, [.ref (x8 17), .ref (x8 19), .int 0, .int 0, .int 0, .int 0, .int 0, .int 0, .int 0, .int 0])), (x8 17, .inr (1, [.ref (x8 18), .int 0, .int 0])), (x8 18, .inl (cA 0, 6, .inl (fun _ => 0))), (x8 19, .inr (3, [.ref (x8 20), .int 1, .int 0])), (x8 20, .inl (cA 0, 100, .inl (fun _ => 0))), (x8 21, .inl (cA 0, 401, .inl (fun _ => 0))), (x8 22, .inl (cA 3, 200, .inr (.inl (fun _ => 0)))), (x8 23, .inr (0, [.ref (x8 24), .ref (x8 26), .int 0, .int 0, .int 0, .int 0, .int 0, .int 0, .int 0, .int 0])), (x8 24, .inr (1, [.ref (x8 25), .int 0, .int 0])), (x8 25, .inl (cA 0, 6, .inl (fun _ => 0))), (x8 26, .inr (3, [.ref (x8 27), .int 1, .int 0])), (x8 27, .inl (cA 0, 100, .inl (fun _ => 0))), (x8 28, .inr (2, [.int 0, .int 0, .int 0, .int 0])), (x8 29, .inl (cA 0, 6, .inl (fun _ => 0))), (x8 30, .inr (5, [.ref (x8 31), .int (-1)])), (x8 31, .inl (cA 0, 60, .inl (fun _ => 0))), (x8 32, .inr (5, [.ref (x8 33), .int (-1)])), (x8 33, .inl (cA 0, 60, .inl (fun _ => 0))), (x8 34, .inr (5, [.ref (x8 35), .int (-1)])), (x8 35, .inl (cA 0, 60, .inl (fun _ => 0))), (x8 36, .inr (5, [.ref (x8 37), .int (-1)])), (x8 37, .inl (cA 0, 60, .inl (fun _ => 0))), (x8 38, .inr (5, [.ref (x8 39), .int (-1)])), (x8 39, .inl (cA 0, 60, .inl (fun _ => 0))), (x8 40, .inr (5, [.ref (x8 41), .int (-1)])), (x8 41, .inl (cA 0, 60, .inl (fun _ => 0))), (x8 42, .inr (6, [.ref (x8 43), .int (-1)])), (x8 43, .inl (cA 1, 80, .inl (fun _ => 0))), (x8 44, .inr (6, [.ref (x8 45), .int (-1)])), (x8 45, .inl (cA 1, 80, .inl (fun _ => 0))), (x8 46, .inr (6, [.ref (x8 47), .int (-1)])), (x8 47, .inl (cA 1, 80, .inl (fun _ => 0))), (x8 48, .inr (6, [.ref (x8 49), .int (-1)])), (x8 49, .inl (cA 1, 80, .inl (fun _ => 0))), (x8 50, .inr (1, [.ref (x8 51), .int 0, .int 0])), (x8 51, .inl (cA 0, 6, .inl (fun _ => 0))), (x8 52, .inr (1, [.ref (x8 53), .int 0, .int 0])), (x8 53, .inl (cA 0, 6, .inl (fun _ => 0))), (x8 54, .inr (1, [.ref (x8 55), .int 0, .int 0])), (x8 55, .inl (cA 0, 6, .inl (fun _ => 0))), (x8 56, .inr (1, [.ref (x8 57), .int 0, .int 0])), (x8 57, .inl (cA 0, 6, .inl (fun _ => 0))), (x8 58, .inr (3, [.ref (x8 59), .int 1, .int 0])), (x8 59, .inl (cA 0, 100, .inl (fun _ => 0))), (x8 60, .inr (3, [.ref (x8 61), .int 1, .int 0])), (x8 61, .inl (cA 0, 100, .inl (fun _ => 0))), (x8 62, .inr (3, [.ref (x8 63), .int 1, .int 0])), (x8 63, .inl (cA 0, 100, .inl (fun _ => 0))), (x8 64, .inr (3, [.ref (x8 65), .int 1, .int 0])), (x8 65, .inl (cA 0, 100, .inl (fun _ => 0))), (x8 66, .inr (0, [.ref (x8 67), .ref (x8 69), .int 0, .int 0, .int 0, .int 0, .int 0, .int 0, .int 0, .int 0])), (x8 67, .inr (1, [.ref (x8 68), .int 0, .int 0])), (x8 68, .inl (cA 0, 6, .inl (fun _ => 0))), (x8 69, .inr (3, [.ref (x8 70), .int 1, .int 0])), (x8 70, .inl (cA 0, 100, .inl (fun _ => 0))), (x8 71, .inr (0, [.ref (x8 72), .ref (x8 74), .int 0, .int 0, .int 0, .int 0, .int 0, .int 0, .int 0, .int 0])), (x8 72, .inr (1, [.ref (x8 73), .int 0, .int 0])), (x8 73, .inl (cA 0, 6, .inl (fun _ => 0))), (x8 74, .inr (3, [.ref (x8 75), .int 1, .int 0])), (x8 75, .inl (cA 0, 100, .inl (fun _ => 0))), (x8 76, .inr (0, [.ref (x8 77), .ref (x8 79), .int 0, .int 0, .int 0, .int 0, .int 0, .int 0, .int 0, .int 0])), (x8 77, .inr (1, [.ref (x8 78), .int 0, .int 0])), (x8 78, .inl (cA 0, 6, .inl (fun _ => 0))), (x8 79, .inr (3, [.ref (x8 80), .int 1, .int 0])), (x8 80, .inl (cA 0, 100, .inl (fun _ => 0)))]) rfl ?_
  refine dq_new (nc2 := 83) (ns2 := 2692) C dnw_L_10 (Nat.le_of_ble_eq_true rfl) (Nat.le_of_ble_eq_true rfl) rfl rfl dL_law_8 (fun q82 => ?_)
  refine dq_ws (ws2 := (q0, .inr (8, [.ref (x8 0), .ref (x8 1), .ref (x8 2), .ref (x8 3), .ref (x8 4), .ref (x8 9), .ref (x8 10), .ref (x8 15), .ref (x8 23), .ref (x8 28), .ref (x8 29), .int 0, .int 0, .long 0, .long 1])) :: ([(x8 0, .inl (cA 4, 6, .inr (.inr (.inr (.inr (va_up (va_up (va_up (va_up (va_up (va_up (fun _ => none) 0 (some (x8 30))) 1 (some (x8 32))) 2 (some (x8 34))) 3 (some (x8 36))) 4 (some (x8 38))) 5 (some (x8 40)))))))), (x8 1, .inl (cA 5, 4, .inr (.inr (.inr (.inr (va_up (va_up (va_up (va_up (fun _ => none) 0 (some (x8 42))) 1 (some (x8 44))) 2 (some (x8 46))) 3 (some (x8 48)))))))), (x8 2, .inl (cA 6, 4, .inr (.inr (.inr (.inr (va_up (va_up (va_up (va_up (fun _ => none) 0 (some (x8 50))) 1 (some (x8 52))) 2 (some (x8 54))) 3 (some (x8 56)))))))), (x8 3, .inl (cA 7, 4, .inr (.inr (.inr (.inr (va_up (va_up (va_up (va_up (fun _ => none) 0 (some (x8 58))) 1 (some (x8 60))) 2 (some (x8 62))) 3 (some (x8 64)))))))), (x8 4, .inr (0, [.ref (x8 5), .ref (x8 7), .int 0, .int 0, .int 0, .int 0, .int 0, .int 0, .int 0, .int 0])), (x8 5, .inr (1, [.ref (x8 6), .int 0, .int 0])), (x8 6, .inl (cA 0, 6, .inl (fun _ => 0))), (x8 7, .inr (3, [.ref (x8 8), .int 1, .int 0])), (x8 8, .inl (cA 0, 100, .inl (fun _ => 0))), (x8 9, .inl (cA 8, 3, .inr (.inr (.inr (.inr (va_up (va_up (va_up (fun _ => none) 0 (some (x8 66))) 1 (some (x8 71))) 2 (some (x8 76)))))))), (x8 10, .inr (4, [.ref (x8 11), .ref (x8 13), .int 0, .int (-9)])), (x8 11, .inr (1, [.ref (x8 12), .int 0, .int 0])), (x8 12, .inl (cA 0, 6, .inl (fun _ => 0))), (x8 13, .inr (3, [.ref (x8 14), .int 1, .int 0])), (x8 14, .inl (cA 0, 100, .inl (fun _ => 0))), (x8 15, .inr (7, [.ref (x8 16), .int 0, .int 0, .int 0, .int 0, .ref (x8 21), .ref (x8 22), .long 0])), (x8 16, .inr (0, [.ref (x8 17), .ref (x8 19), .int 0, .int 0, .int 0, .int 0, .int 0, .int 0, .int 0, .int 0])), (x8 17, .inr (1, [.ref (x8 18), .int 0, .int 0])), (x8 18, .inl (cA 0, 6, .inl (fun _ => 0))), (x8 19, .inr (3, [.ref (x8 20), .int 1, .int 0])), (x8 20, .inl (cA 0, 100, .inl (fun _ => 0))), (x8 21, .inl (cA 0, 401, .inl (fun _ => 0))), (x8 22, .inl (cA 3, 200, .inr (.inl (fun _ => 0)))), (x8 23, .inr (0, [.ref (x8 24), .ref (x8 26), .int 0, .int 0, .int 0, .int 0, .int 0, .int 0, .int 0, .int 0])), (x8 24, .inr (1, [.ref (x8 25), .int 0, .int 0])), (x8 25, .inl (cA 0, 6, .inl (fun _ => 0))), (x8 26, .inr (3, [.ref (x8 27), .int 1, .int 0])), (x8 27, .inl (cA 0, 100, .inl (fun _ => 0))), (x8 28, .inr (2, [.int 0, .int 0, .int 0, .int 0])), (x8 29, .inl (cA 0, 6, .inl (fun _ => 0))), (x8 30, .inr (5, [.ref (x8 31), .int (-1)])), (x8 31, .inl (cA 0, 60, .inl (fun _ => 0))), (x8 32, .inr (5, [.ref (x8 33), .int (-1)])), (x8 33, .inl (cA 0, 60, .inl (fun _ => 0))), (x8 34, .inr (5, [.ref (x8 35), .int (-1)])), (x8 35, .inl (cA 0, 60, .inl (fun _ => 0))), (x8 36, .inr (5, [.ref (x8 37), .int (-1)])), (x8 37, .inl (cA 0, 60, .inl (fun _ => 0))), (x8 38, .inr (5, [.ref (x8 39), .int (-1)])), (x8 39, .inl (cA 0, 60, .inl (fun _ => 0))), (x8 40, .inr (5, [.ref (x8 41), .int (-1)])), (x8 41, .inl (cA 0, 60, .inl (fun _ => 0))), (x8 42, .inr (6, [.ref (x8 43), .int (-1)])), (x8 43, .inl (cA 1, 80, .inl (fun _ => 0))), (x8 44, .inr (6, [.ref (x8 45), .int (-1)])), (x8 45, .inl (cA 1, 80, .inl (fun _ => 0))), (x8 46, .inr (6, [.ref (x8 47), .int (-1)])), (x8 47, .inl (cA 1, 80, .inl (fun _ => 0))), (x8 48, .inr (6, [.ref (x8 49), .int (-1)])), (x8 49, .inl (cA 1, 80, .inl (fun _ => 0))), (x8 50, .inr (1, [.ref (x8 51), .int 0, .int 0])), (x8 51, .inl (cA 0, 6, .inl (fun _ => 0))), (x8 52, .inr (1, [.ref (x8 53), .int 0, .int 0])), (x8 53, .inl (cA 0, 6, .inl (fun _ => 0))), (x8 54, .inr (1, [.ref (x8 55), .int 0, .int 0])), (x8 55, .inl (cA 0, 6, .inl (fun _ => 0))), (x8 56, .inr (1, [.ref (x8 57), .int 0, .int 0])), (x8 57, .inl (cA 0, 6, .inl (fun _ => 0))), (x8 58, .inr (3, [.ref (x8 59), .int 1, .int 0])), (x8 59, .inl (cA 0, 100, .inl (fun _ => 0))), (x8 60, .inr (3, [.ref (x8 61), .int 1, .int 0])), (x8 61, .inl (cA 0, 100, .inl (fun _ => 0))), (x8 62, .inr (3, [.ref (x8 63), .int 1, .int 0])), (x8 63, .inl (cA 0, 100, .inl (fun _ => 0))), (x8 64, .inr (3, [.ref (x8 65), .int 1, .int 0])), (x8 65, .inl (cA 0, 100, .inl (fun _ => 0))), (x8 66, .inr (0, [.ref (x8 67), .ref (x8 69), .int 0, .int 0, .int 0, .int 0, .int 0, .int 0, .int 0, .int 0])), (x8 67, .inr (1, [.ref (x8 68), .int 0, .int 0])), (x8 68, .inl (cA 0, 6, .inl (fun _ => 0))), (x8 69, .inr (3, [.ref (x8 70), .int 1, .int 0])), (x8 70, .inl (cA 0, 100, .inl (fun _ => 0))), (x8 71, .inr (0, [.ref (x8 72), .ref (x8 74), .int 0, .int 0, .int 0, .int 0, .int 0, .int 0, .int 0, .int 0])), (x8 72, .inr (1, [.ref (x8 73), .int 0, .int 0])), (x8 73, .inl (cA 0, 6, .inl (fun _ => 0))), (x8 74, .inr (3, [.ref (x8 75), .int 1, .int 0])), (x8 75, .inl (cA 0, 100, .inl (fun _ => 0))), (x8 76, .inr (0, [.ref (x8 77), .ref (x8 79), .int 0, .int 0, .int 0, .int 0, .int 0, .int 0, .int 0, .int 0])), (x8 77, .inr (1, [.ref (x8 78), .int 0, .int 0])), (x8 78, .inl (cA 0, 6, .inl (fun _ => 0))), (x8 79, .inr (3, [.ref (x8 80), .int 1, .int 0])), (x8 80, .inl (cA 0, 100, .inl (fun _ => 0)))] ++ [(q82, .inr (9, [.int 0, .null, .int 0, .long 0, .long 0, .null, .null, .null, .null, .null, .null, .null, .null, .null, .int 0, .int 0, .int 0, .null, .null, .null, .int 0, .int 0, .null, .int 0, .int 0, .int 0, .int 0, .int 0, .int 0, .int 0, .null, .null, .null, .null, .int 0, .int 0, .int 0, .int 0, .null, .null, .long 0]))])) rfl ?_
  refine dq_dup C dL_law_11 rfl ?_
  refine dq_init (nc2 := 103) (ns2 := 6066) C dwi_L_12 (ci_X9 l (dC, dI) cA _ _ 82 q82 rfl) ⟨Nat.le_of_ble_eq_true rfl, Nat.le_of_ble_eq_true rfl⟩ (Nat.le_of_ble_eq_true rfl) (Nat.le_of_ble_eq_true rfl) rfl rfl (Nat.le_of_ble_eq_true rfl) dL_law_12 (fun x9 => ?_)
  refine dq_astore_n (lv2 := [(0, .ref b), (1, .ref q0), (2, .ref q82)]) C [1, 2, 0] dL_law_15 rfl (by decide) rfl ?_
  refine dq_iconst C dL_law_16 dc_iconst_0 ?_
  refine dq_istore_n (lv2 := [(0, .ref b), (1, .ref q0), (2, .ref q82), (3, .int 0)]) C [1, 2, 3, 0] dL_law_17 rfl (by decide) rfl ?_
  refine dq_ws (ws2 := dk_W0 cA q0 q82 x8 x9) rfl ?_
  intro H locs ls hP hD hS hl
  have hP := dk_P0 hP
  have hinj : dk_inj (dk_ad q0 q82 x8 x9, (dC, dI), cA) := fun i j hi hj h => by
    obtain ⟨e1, h1⟩ := dk_ab (dC, dI) cA q0 q82 x8 x9 i hi
    obtain ⟨e2, h2⟩ := dk_ab (dC, dI) cA q0 q82 x8 x9 j hj
    exact hD.1 i j _ _ h1 h2 h
  have hge : ∀ k, k < 103 → s.heap.size ≤ dk_ad q0 q82 x8 x9 k := fun k hk => by
    obtain ⟨e1, h1⟩ := dk_ab (dC, dI) cA q0 q82 x8 x9 k hk
    exact hD.2 k _ h1
  have CL : dk_CL p s m meth c (dk_ad q0 q82 x8 x9, (dC, dI), cA) b L xs := ⟨hx, hb, hml, hown, fun w hw => hts w (dk_tb_in hw), hr, hlocks, hinj, hN, hK, hX, hbl, hge⟩
  exact law_loop hL CL 513 0 dk_S0 rfl (Nat.zero_le _) dk_I_0 H locs ls hP hS hl

