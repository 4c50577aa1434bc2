noncomputable def fX9_isOf (x0 : Int32) (x1 : Int32) (S : dk_S) : Option (Int32 × dk_S) := if x1 = 0 then some (1, S) else if x0 = x1 then some (1, S) else dk_lt (fun t3 : dk_S => (if x1 = 2 then if x0 = 7 then some (1, t3) else some (0, t3) else some (0, t3) : Option (Int32 × dk_S))) (fun k4 => if x1 = 1 then if x0 = 6 then some (1, S) else k4 S else k4 S)
set_option maxRecDepth 100000 in
set_option maxHeartbeats 4000000 in
theorem ct_X9_isOf (l : Launch) (g : dk_G) (x0 : Int32) (x1 : Int32) (S : dk_S)  : dk_M l g yX9_isOf cX9_isOf 2 (some .boolean) 0 0 [.int x0, .int x1] S (fX9_isOf x0 x1 S) dk_qi := by
  refine dk_enter "DuckWalkModel" (by decide +kernel) rfl (Nat.le_of_ble_eq_true rfl) [(0, .int x0), (1, .int x1)] rfl ?_
  intro p e s m args below meth c C
  unfold fX9_isOf
  refine dj_iload_n C 1 rfl dX9_isOf_0 ?_
  refine dj_if_eq (tgt := 31) C dX9_isOf_1 (by decide) (fun c1 => ?_) (fun c1 => ?_)
  · refine dj_iconst C dX9_isOf_31 dc_iconst_1 ?_
    refine dj_goto (tgt := 36) C dX9_isOf_32 (by decide) ?_
    exact dj_zret C rfl dX9_isOf_36
  · refine dj_iload_n C 0 rfl dX9_isOf_4 ?_
    refine dj_iload_n C 1 rfl dX9_isOf_5 ?_
    refine dj_icmp_eq (tgt := 31) C dX9_isOf_6 (by decide) (fun c2 => ?_) (fun c2 => ?_)
    · refine dj_iconst C dX9_isOf_31 dc_iconst_1 ?_
      refine dj_goto (tgt := 36) C dX9_isOf_32 (by decide) ?_
      exact dj_zret C rfl dX9_isOf_36
    · refine dj_iload_n C 1 rfl dX9_isOf_9 ?_
      refine dj_iconst C dX9_isOf_10 dc_iconst_1 ?_
      refine dj_join 20 (fun t3 : dk_S => [(0, .int x0), (1, .int x1)]) (fun t3 : dk_S => []) (fun t3 : dk_S => t3) (fun t3 => ?_) (fun k4 hk4 => ?_)
      · refine dj_iload_n C 1 rfl dX9_isOf_20 ?_
        refine dj_iconst C dX9_isOf_21 dc_iconst_2 ?_
        refine dj_icmp_ne (tgt := 35) C dX9_isOf_22 (by decide) (fun c5 => ?_) (fun c5 => ?_)
        · refine dj_iconst C dX9_isOf_35 dc_iconst_0 ?_
          exact dj_zret C rfl dX9_isOf_36
        · refine dj_iload_n C 0 rfl dX9_isOf_25 ?_
          refine dj_bipush C dX9_isOf_26 dc_bipush_7 ?_
          refine dj_icmp_ne (tgt := 35) C dX9_isOf_28 (by decide) (fun c6 => ?_) (fun c6 => ?_)
          · refine dj_iconst C dX9_isOf_35 dc_iconst_0 ?_
            exact dj_zret C rfl dX9_isOf_36
          · refine dj_iconst C dX9_isOf_31 dc_iconst_1 ?_
            refine dj_goto (tgt := 36) C dX9_isOf_32 (by decide) ?_
            exact dj_zret C rfl dX9_isOf_36
      · refine dj_icmp_ne (tgt := 20) C dX9_isOf_11 (by decide) (fun c7 => ?_) (fun c7 => ?_)
        · exact hk4 S
        · refine dj_iload_n C 0 rfl dX9_isOf_14 ?_
          refine dj_bipush C dX9_isOf_15 dc_bipush_6 ?_
          refine dj_icmp_eq (tgt := 31) C dX9_isOf_17 (by decide) (fun c8 => ?_) (fun c8 => ?_)
          · refine dj_iconst C dX9_isOf_31 dc_iconst_1 ?_
            refine dj_goto (tgt := 36) C dX9_isOf_32 (by decide) ?_
            exact dj_zret C rfl dX9_isOf_36
          · exact hk4 S
noncomputable def fX9_walksWell (x1 : Int32) (S : dk_S) : Option (Int32 × dk_S) := (fX9_goingOf x1 S).bind (fun r1 => (fX9_isOf r1.1 1 r1.2).bind (fun r2 => dk_gd (decide (r2.1 = 0 ∨ r2.1 = 1)) (some (r2.1, r2.2))))
set_option maxRecDepth 100000 in
set_option maxHeartbeats 4000000 in
theorem ct_X9_walksWell (l : Launch) (g : dk_G) (x1 : Int32) (S : dk_S)  : dk_M l g yX9_walksWell cX9_walksWell 2 (some .boolean) 4 87 [.ref (g.1 82), .int x1] S (fX9_walksWell x1 S) dk_qi := by
  refine dk_enter "DuckWalkModel" (by decide +kernel) rfl (Nat.le_of_ble_eq_true rfl) [(0, .ref (g.1 82)), (1, .int x1)] rfl ?_
  intro p e s m args below meth c C
  unfold fX9_walksWell
  refine dj_aload_n C 0 rfl dX9_walksWell_0 ?_
  refine dj_iload_n C 1 rfl dX9_walksWell_1 ?_
  refine dj_callVi (t := 9) (As := [.int x1]) C dw_X9_224 ⟨_, _, rfl⟩ (by decide) dz_82 (ct_X9_goingOf l g x1 S) ⟨Nat.le_of_ble_eq_true rfl, Nat.le_of_ble_eq_true rfl⟩ rfl (Nat.le_of_ble_eq_true rfl) rfl dX9_walksWell_2 (fun r1 => ?_)
  refine dj_iconst C dX9_walksWell_5 dc_iconst_1 ?_
  refine dj_callSi (As := [.int r1.1, .int 1]) C dw_X9_227 (ct_X9_isOf l g r1.1 1 r1.2) ⟨Nat.le_of_ble_eq_true rfl, Nat.le_of_ble_eq_true rfl⟩ rfl (Nat.le_of_ble_eq_true rfl) rfl dX9_walksWell_6 (fun r2 => ?_)
  exact dj_zretg C dX9_walksWell_9
noncomputable def fX9_areGood (x1 : Int32) (x2 : Int32) (x3 : Int32) (x4 : Int32) (S : dk_S) : Option (Int32 × dk_S) := (fX9_isPlace x1 S).bind (fun r1 => if r1.1 = 0 then some (0, r1.2) else (fX9_isPlace x2 r1.2).bind (fun r3 => if r3.1 = 0 then some (0, r3.2) else (fX9_in x3 0 99 r3.2).bind (fun r5 => if r5.1 = 0 then some (0, r5.2) else (fX9_in x4 0 99 r5.2).bind (fun r7 => if r7.1 = 0 then some (0, r7.2) else some (1, r7.2)))))
set_option maxRecDepth 100000 in
set_option maxHeartbeats 4000000 in
theorem ct_X9_areGood (l : Launch) (g : dk_G) (x1 : Int32) (x2 : Int32) (x3 : Int32) (x4 : Int32) (S : dk_S)  : dk_M l g yX9_areGood cX9_areGood 5 (some .boolean) 2 42 [.ref (g.1 82), .int x1, .int x2, .int x3, .int x4] S (fX9_areGood x1 x2 x3 x4 S) dk_qi := by
  refine dk_enter "DuckWalkModel" (by decide +kernel) rfl (Nat.le_of_ble_eq_true rfl) [(0, .ref (g.1 82)), (1, .int x1), (2, .int x2), (3, .int x3), (4, .int x4)] rfl ?_
  intro p e s m args below meth c C
  unfold fX9_areGood
  refine dj_iload_n C 1 rfl dX9_areGood_0 ?_
  refine dj_callSi (As := [.int x1]) C dw_X9_139 (ct_X9_isPlace l g x1 S) ⟨Nat.le_of_ble_eq_true rfl, Nat.le_of_ble_eq_true rfl⟩ rfl (Nat.le_of_ble_eq_true rfl) rfl dX9_areGood_1 (fun r1 => ?_)
  refine dj_if_eq (tgt := 39) C dX9_areGood_4 (by decide) (fun c2 => ?_) (fun c2 => ?_)
  · refine dj_iconst C dX9_areGood_39 dc_iconst_0 ?_
    exact dj_zret C rfl dX9_areGood_40
  · refine dj_iload_n C 2 rfl dX9_areGood_7 ?_
    refine dj_callSi (As := [.int x2]) C dw_X9_139 (ct_X9_isPlace l g x2 r1.2) ⟨Nat.le_of_ble_eq_true rfl, Nat.le_of_ble_eq_true rfl⟩ rfl (Nat.le_of_ble_eq_true rfl) rfl dX9_areGood_8 (fun r3 => ?_)
    refine dj_if_eq (tgt := 39) C dX9_areGood_11 (by decide) (fun c4 => ?_) (fun c4 => ?_)
    · refine dj_iconst C dX9_areGood_39 dc_iconst_0 ?_
      exact dj_zret C rfl dX9_areGood_40
    · refine dj_iload_n C 3 rfl dX9_areGood_14 ?_
      refine dj_iconst C dX9_areGood_15 dc_iconst_0 ?_
      refine dj_bipush C dX9_areGood_16 dc_bipush_99 ?_
      refine dj_callSi (As := [.int x3, .int 0, .int 99]) C dw_X9_80 (ct_X9_in l g x3 0 99 r3.2) ⟨Nat.le_of_ble_eq_true rfl, Nat.le_of_ble_eq_true rfl⟩ rfl (Nat.le_of_ble_eq_true rfl) rfl dX9_areGood_18 (fun r5 => ?_)
      refine dj_if_eq (tgt := 39) C dX9_areGood_21 (by decide) (fun c6 => ?_) (fun c6 => ?_)
      · refine dj_iconst C dX9_areGood_39 dc_iconst_0 ?_
        exact dj_zret C rfl dX9_areGood_40
      · refine dj_iload C 4 rfl dX9_areGood_24 ?_
        refine dj_iconst C dX9_areGood_26 dc_iconst_0 ?_
        refine dj_bipush C dX9_areGood_27 dc_bipush_99 ?_
        refine dj_callSi (As := [.int x4, .int 0, .int 99]) C dw_X9_80 (ct_X9_in l g x4 0 99 r5.2) ⟨Nat.le_of_ble_eq_true rfl, Nat.le_of_ble_eq_true rfl⟩ rfl (Nat.le_of_ble_eq_true rfl) rfl dX9_areGood_29 (fun r7 => ?_)
        refine dj_if_eq (tgt := 39) C dX9_areGood_32 (by decide) (fun c8 => ?_) (fun c8 => ?_)
        · refine dj_iconst C dX9_areGood_39 dc_iconst_0 ?_
          exact dj_zret C rfl dX9_areGood_40
        · refine dj_iconst C dX9_areGood_35 dc_iconst_1 ?_
          refine dj_goto (tgt := 40) C dX9_areGood_36 (by decide) ?_
          exact dj_zret C rfl dX9_areGood_40
noncomputable def fX9_need (x1 : Int32) (x2 : Int32) (x3 : Int32) (x4 : Int32) (x5 : Int32) (S : dk_S) : Option (Int32 × dk_S) := if x1 = 0 then some ((-1), S) else (fX9_areGood x2 x3 x4 x5 S).bind (fun r2 => if r2.1 = 0 then some ((-1), r2.2) else dk_gd (dk_in x2 4) (if (r2.2.1 89 x2.toNatClampNeg) = 0 then (fX9_notes 1 r2.2).bind (fun r5 => some (r5.1, r5.2)) else dk_gd (dk_in x3 4) (if (r2.2.1 91 x3.toNatClampNeg) = 0 then (fX9_notes 1 r2.2).bind (fun r8 => some (r8.1, r8.2)) else (fX9_looksAt x2 x3 x4 r2.2).bind (fun r7 => some (0, r7)))))
set_option maxRecDepth 100000 in
set_option maxHeartbeats 4000000 in
theorem ct_X9_need (l : Launch) (g : dk_G) (x1 : Int32) (x2 : Int32) (x3 : Int32) (x4 : Int32) (x5 : Int32) (S : dk_S)  : dk_M l g yX9_need cX9_need 6 (some .int) 3 66 [.ref (g.1 82), .int x1, .int x2, .int x3, .int x4, .int x5] S (fX9_need x1 x2 x3 x4 x5 S) dk_qi := by
  refine dk_enter "DuckWalkModel" (by decide +kernel) rfl (Nat.le_of_ble_eq_true rfl) [(0, .ref (g.1 82)), (1, .int x1), (2, .int x2), (3, .int x3), (4, .int x4), (5, .int x5)] rfl ?_
  intro p e s m args below meth c C
  unfold fX9_need
  refine dj_iload_n C 1 rfl dX9_need_0 ?_
  refine dj_if_eq (tgt := 17) C dX9_need_1 (by decide) (fun c1 => ?_) (fun c1 => ?_)
  · refine dj_iconst C dX9_need_17 dc_iconst_m1 ?_
    exact dj_iret C dX9_need_18
  · refine dj_aload_n C 0 rfl dX9_need_4 ?_
    refine dj_iload_n C 2 rfl dX9_need_5 ?_
    refine dj_iload_n C 3 rfl dX9_need_6 ?_
    refine dj_iload C 4 rfl dX9_need_7 ?_
    refine dj_iload C 5 rfl dX9_need_9 ?_
    refine dj_callVi (t := 9) (As := [.int x2, .int x3, .int x4, .int x5]) C dw_X9_230 ⟨_, _, rfl⟩ (by decide) dz_82 (ct_X9_areGood l g x2 x3 x4 x5 S) ⟨Nat.le_of_ble_eq_true rfl, Nat.le_of_ble_eq_true rfl⟩ rfl (Nat.le_of_ble_eq_true rfl) rfl dX9_need_11 (fun r2 => ?_)
    refine dj_if_ne (tgt := 19) C dX9_need_14 (by decide) (fun c3 => ?_) (fun c3 => ?_)
    · refine dj_aload_n C 0 rfl dX9_need_19 ?_
      refine dj_getr (r := 7) (k2 := 89) C dl_X9_29 rfl dz_82 rfl dX9_need_20 ?_
      refine dj_iload_n C 2 rfl dX9_need_23 ?_
      refine dj_zald (n := 4) C dz_89 (by decide) dX9_need_24 ?_
      refine dj_if_eq (tgt := 37) C dX9_need_25 (by decide) (fun c4 => ?_) (fun c4 => ?_)
      · refine dj_aload_n C 0 rfl dX9_need_37 ?_
        refine dj_iconst C dX9_need_38 dc_iconst_1 ?_
        refine dj_callVi (t := 9) (As := [.int 1]) C dw_X9_94 ⟨_, _, rfl⟩ (by decide) dz_82 (ct_X9_notes l g 1 r2.2) ⟨Nat.le_of_ble_eq_true rfl, Nat.le_of_ble_eq_true rfl⟩ rfl (Nat.le_of_ble_eq_true rfl) rfl dX9_need_39 (fun r5 => ?_)
        exact dj_iret C dX9_need_42
      · refine dj_aload_n C 0 rfl dX9_need_28 ?_
        refine dj_getr (r := 9) (k2 := 91) C dl_X9_36 rfl dz_82 rfl dX9_need_29 ?_
        refine dj_iload_n C 3 rfl dX9_need_32 ?_
        refine dj_zald (n := 4) C dz_91 (by decide) dX9_need_33 ?_
        refine dj_if_ne (tgt := 43) C dX9_need_34 (by decide) (fun c6 => ?_) (fun c6 => ?_)
        · refine dj_aload_n C 0 rfl dX9_need_43 ?_
          refine dj_iload_n C 2 rfl dX9_need_44 ?_
          refine dj_iload_n C 3 rfl dX9_need_45 ?_
          refine dj_iload C 4 rfl dX9_need_46 ?_
          refine dj_callVv (t := 9) (As := [.int x2, .int x3, .int x4]) C dw_X9_234 ⟨_, _, rfl⟩ (by decide) dz_82 (ct_X9_looksAt l g x2 x3 x4 r2.2) ⟨Nat.le_of_ble_eq_true rfl, Nat.le_of_ble_eq_true rfl⟩ rfl (Nat.le_of_ble_eq_true rfl) rfl dX9_need_48 (fun r7 => ?_)
          refine dj_iconst C dX9_need_51 dc_iconst_0 ?_
          exact dj_iret C dX9_need_52
        · refine dj_aload_n C 0 rfl dX9_need_37 ?_
          refine dj_iconst C dX9_need_38 dc_iconst_1 ?_
          refine dj_callVi (t := 9) (As := [.int 1]) C dw_X9_94 ⟨_, _, rfl⟩ (by decide) dz_82 (ct_X9_notes l g 1 r2.2) ⟨Nat.le_of_ble_eq_true rfl, Nat.le_of_ble_eq_true rfl⟩ rfl (Nat.le_of_ble_eq_true rfl) rfl dX9_need_39 (fun r8 => ?_)
          exact dj_iret C dX9_need_42
    · refine dj_iconst C dX9_need_17 dc_iconst_m1 ?_
      exact dj_iret C dX9_need_18
noncomputable def fX9_going (x1 : Int32) (x2 : Int32) (x3 : Int32) (x4 : Int32) (S : dk_S) : Option (Int32 × dk_S) := (fX9_need 1 x1 x2 x3 x4 S).bind (fun r1 => if 0 ≤ r1.1 then (fX9_goingOf x4 r1.2).bind (fun r3 => (fX9_tells (r3.2.1 82 35) r3.1 r3.2).bind (fun r4 => some (r4.1, r4.2))) else some (r1.1, r1.2))
set_option maxRecDepth 100000 in
set_option maxHeartbeats 4000000 in
theorem ct_X9_going (l : Launch) (g : dk_G) (x1 : Int32) (x2 : Int32) (x3 : Int32) (x4 : Int32) (S : dk_S)  : dk_M l g yX9_going cX9_going 7 (some .int) 4 91 [.ref (g.1 82), .int x1, .int x2, .int x3, .int x4] S (fX9_going x1 x2 x3 x4 S) dk_qi := by
  refine dk_enter "DuckWalkModel" (by decide +kernel) rfl (Nat.le_of_ble_eq_true rfl) [(0, .ref (g.1 82)), (1, .int x1), (2, .int x2), (3, .int x3), (4, .int x4)] rfl ?_
  intro p e s m args below meth c C
  unfold fX9_going
  refine dj_aload_n C 0 rfl dX9_going_0 ?_
  refine dj_iconst C dX9_going_1 dc_iconst_1 ?_
  refine dj_iload_n C 1 rfl dX9_going_2 ?_
  refine dj_iload_n C 2 rfl dX9_going_3 ?_
  refine dj_iload_n C 3 rfl dX9_going_4 ?_
  refine dj_iload C 4 rfl dX9_going_5 ?_
  refine dj_callVi (t := 9) (As := [.int 1, .int x1, .int x2, .int x3, .int x4]) C dw_X9_238 ⟨_, _, rfl⟩ (by decide) dz_82 (ct_X9_need l g 1 x1 x2 x3 x4 S) ⟨Nat.le_of_ble_eq_true rfl, Nat.le_of_ble_eq_true rfl⟩ rfl (Nat.le_of_ble_eq_true rfl) rfl dX9_going_7 (fun r1 => ?_)
  refine dj_istore (lv2 := [(0, .ref (g.1 82)), (4, .int x4), (5, .int r1.1)]) C [1, 5, 0] dX9_going_10 (by decide) rfl ?_
  refine dj_iload C 2 rfl dX9_going_12 ?_
  refine dj_if_ge (tgt := 20) C dX9_going_14 (by decide) (fun c2 => ?_) (fun c2 => ?_)
  · refine dj_aload_n C 0 rfl dX9_going_20 ?_
    refine dj_iload C 1 rfl dX9_going_21 ?_
    refine dj_callVi (t := 9) (As := [.int x4]) C dw_X9_224 ⟨_, _, rfl⟩ (by decide) dz_82 (ct_X9_goingOf l g x4 r1.2) ⟨Nat.le_of_ble_eq_true rfl, Nat.le_of_ble_eq_true rfl⟩ rfl (Nat.le_of_ble_eq_true rfl) rfl dX9_going_23 (fun r3 => ?_)
    refine dj_istore (lv2 := [(0, .ref (g.1 82)), (6, .int r3.1)]) C [1, 0] dX9_going_26 (by decide) rfl ?_
    refine dj_aload_n C 0 rfl dX9_going_28 ?_
    refine dj_aload_n C 0 rfl dX9_going_29 ?_
    refine dj_geti C dl_X9_203 rfl dz_82 dX9_going_30 ?_
    refine dj_iload C 1 rfl dX9_going_33 ?_
    refine dj_callVi (t := 9) (As := [.int (r3.2.1 82 35), .int r3.1]) C dw_X9_102 ⟨_, _, rfl⟩ (by decide) dz_82 (ct_X9_tells l g (r3.2.1 82 35) r3.1 r3.2) ⟨Nat.le_of_ble_eq_true rfl, Nat.le_of_ble_eq_true rfl⟩ rfl (Nat.le_of_ble_eq_true rfl) rfl dX9_going_35 (fun r4 => ?_)
    exact dj_iret C dX9_going_38
  · refine dj_iload C 2 rfl dX9_going_17 ?_
    exact dj_iret C dX9_going_19
noncomputable def fX9_unlikePaces_L32  : Nat → Int32 → Int32 → dk_S → Option (Int32 × dk_S)
  | 0, _, _, _ => none
  | n + 1, x2, x3, S => if 400 ≤ x3 then some (x2, S) else if (S.1 82 27) = 0 then (fX9_steps x3 S).bind (fun r5 => dk_gd (dk_in (r5.1 82 25) 400) (dk_lt (if (r5.1 101 (r5.1 82 25).toNatClampNeg) = 0 then 1 else 0) (fun y6 : Int32 => dk_lt (x2 + y6) (fun y7 : Int32 => dk_gd (dk_in (r5.1 82 25) 400) (dk_lt (dk_si r5 101 (r5.1 82 25).toNatClampNeg (vp_nar .boolean 1)) (fun S8 => fX9_unlikePaces_L32 n y7 (x3 + 1) S8)))))) else some (x2, S)
noncomputable def fX9_unlikePaces_L2 (x1 : Int32) (kx22 : dk_S → Option (Int32 × dk_S)) : Nat → Int32 → dk_S → Option (Int32 × dk_S)
  | 0, _, _ => none
  | n + 1, x2, S => if 400 ≤ x2 then kx22 S else dk_gd (dk_in x2 400) (dk_lt (dk_si S 101 x2.toNatClampNeg (vp_nar .boolean 0)) (fun S11 => fX9_unlikePaces_L2 x1 kx22 n (x2 + 1) S11))
noncomputable def fX9_unlikePaces (x1 : Int32) (S : dk_S) : Option (Int32 × dk_S) := fX9_unlikePaces_L2 x1 (fun t1 : dk_S => (fX9_starts x1 0 t1).bind (fun r2 => fX9_unlikePaces_L32 dk_FU 0 0 r2)) dk_FU 0 S
set_option maxRecDepth 100000 in
set_option maxHeartbeats 4000000 in
theorem jX9_unlikePaces_L32 {p : Program} {l : Launch} {e : Env} {R : Room} {s : State} {m : MethodId} {args : Array Value} {below : List Frame} {meth : Method} {c : Code} {g : dk_G} (C : dk_C p l e R s m args below meth c g cX9_unlikePaces "DuckWalkModel" 4 (some .int)) (hR : R = { frames := 3, cells := 0, slots := 0, locals := 64 })    : ∀ (n : Nat) (x2 : Int32) (x3 : Int32) (S : dk_S), dk_J p l e R s m args below meth c g 4 dk_qi 32 [(0, .ref (g.1 82)), (2, .int x2), (3, .int x3)] [] S (fX9_unlikePaces_L32 n x2 x3 S) some := by
  subst hR
  intro n
  induction n with
  | zero =>
    intro x2 x3 S
    exact dj_none
  | succ n ih =>
    intro x2 x3 S
    rw [fX9_unlikePaces_L32]
    refine dj_iload_n C 2 rfl dX9_unlikePaces_32 ?_
    refine dj_sipush C dX9_unlikePaces_33 dc_sipush_400 ?_
    refine dj_icmp_ge (tgt := 87) C dX9_unlikePaces_36 (by decide) (fun c3 => ?_) (fun c3 => ?_)
    · refine dj_iload_n C 1 rfl dX9_unlikePaces_87 ?_
      exact dj_iret C dX9_unlikePaces_88
    · refine dj_aload_n C 0 rfl dX9_unlikePaces_39 ?_
      refine dj_geti C dl_X9_160 rfl dz_82 dX9_unlikePaces_40 ?_
      refine dj_if_ne (tgt := 87) C dX9_unlikePaces_43 (by decide) (fun c4 => ?_) (fun c4 => ?_)
      · refine dj_iload_n C 1 rfl dX9_unlikePaces_87 ?_
        exact dj_iret C dX9_unlikePaces_88
      · refine dj_aload_n C 0 rfl dX9_unlikePaces_46 ?_
        refine dj_iload_n C 2 rfl dX9_unlikePaces_47 ?_
        refine dj_callVv (t := 9) (As := [.int x3]) C dw_X9_206 ⟨_, _, rfl⟩ (by decide) dz_82 (ct_X9_steps l g x3 S) ⟨Nat.le_of_ble_eq_true rfl, Nat.le_of_ble_eq_true rfl⟩ rfl (Nat.le_of_ble_eq_true rfl) rfl dX9_unlikePaces_48 (fun r5 => ?_)
        refine dj_iload_n C 1 rfl dX9_unlikePaces_51 ?_
        refine dj_aload_n C 0 rfl dX9_unlikePaces_52 ?_
        refine dj_getr (r := 19) (k2 := 101) C dl_X9_66 rfl dz_82 rfl dX9_unlikePaces_53 ?_
        refine dj_aload_n C 0 rfl dX9_unlikePaces_56 ?_
        refine dj_geti C dl_X9_154 rfl dz_82 dX9_unlikePaces_57 ?_
        refine dj_zald (n := 400) C dz_101 (by decide) dX9_unlikePaces_60 ?_
        refine dj_dia 69 [.int x2] (fun y6 => ?_) (fun hd6 => ?_)
        · refine dj_iadd C dX9_unlikePaces_69 ?_
          refine dj_lti (fun y7 => ?_)
          refine dj_istore_n (lv2 := [(0, .ref (g.1 82)), (2, .int y7), (3, .int x3)]) C [1, 0, 2] dX9_unlikePaces_70 rfl (by decide) rfl ?_
          refine dj_aload_n C 0 rfl dX9_unlikePaces_71 ?_
          refine dj_getr (r := 19) (k2 := 101) C dl_X9_66 rfl dz_82 rfl dX9_unlikePaces_72 ?_
          refine dj_aload_n C 0 rfl dX9_unlikePaces_75 ?_
          refine dj_geti C dl_X9_154 rfl dz_82 dX9_unlikePaces_76 ?_
          refine dj_iconst C dX9_unlikePaces_79 dc_iconst_1 ?_
          refine dj_zast (n := 400) C dz_101 (by decide) dX9_unlikePaces_80 (fun S8 => ?_)
          refine dj_iinc (lv2 := [(0, .ref (g.1 82)), (2, .int y7), (3, .int (x3 + 1))]) C 2 rfl [1, 2, 0] dX9_unlikePaces_81 dc_iconst_1 (by decide) rfl ?_
          refine dj_goto (tgt := 32) C dX9_unlikePaces_84 (by decide) ?_
          exact ih y7 (x3 + 1) S8
        · refine dj_ltite ?_
          refine dj_if_eq (tgt := 68) C dX9_unlikePaces_61 (by decide) (fun c9 => ?_) (fun c9 => ?_)
          · refine dj_iconst C dX9_unlikePaces_68 dc_iconst_1 ?_
            exact hd6 _
          · refine dj_iconst C dX9_unlikePaces_64 dc_iconst_0 ?_
            refine dj_goto (tgt := 69) C dX9_unlikePaces_65 (by decide) ?_
            exact hd6 _
set_option maxRecDepth 100000 in
set_option maxHeartbeats 4000000 in
theorem jX9_unlikePaces_L2 {p : Program} {l : Launch} {e : Env} {R : Room} {s : State} {m : MethodId} {args : Array Value} {below : List Frame} {meth : Method} {c : Code} {g : dk_G} (C : dk_C p l e R s m args below meth c g cX9_unlikePaces "DuckWalkModel" 4 (some .int)) (hR : R = { frames := 3, cells := 0, slots := 0, locals := 64 }) (x1 : Int32) (kx22 : dk_S → Option (Int32 × dk_S))  (hkx22 : ∀ t : dk_S, dk_J p l e R s m args below meth c g 4 dk_qi 22 [(0, .ref (g.1 82)), (1, .int x1)] [] t (kx22 t) some) : ∀ (n : Nat) (x2 : Int32) (S : dk_S), dk_J p l e R s m args below meth c g 4 dk_qi 2 [(0, .ref (g.1 82)), (1, .int x1), (2, .int x2)] [] S (fX9_unlikePaces_L2 x1 kx22 n x2 S) some := by
  subst hR
  intro n
  induction n with
  | zero =>
    intro x2 S
    exact dj_none
  | succ n ih =>
    intro x2 S
    rw [fX9_unlikePaces_L2]
    refine dj_iload_n C 2 rfl dX9_unlikePaces_2 ?_
    refine dj_sipush C dX9_unlikePaces_3 dc_sipush_400 ?_
    refine dj_icmp_ge (tgt := 22) C dX9_unlikePaces_6 (by decide) (fun c10 => ?_) (fun c10 => ?_)
    · refine dj_sub (lv2 := [(0, .ref (g.1 82)), (1, .int x1)]) [0, 1] rfl ?_
      exact hkx22 S
    · refine dj_aload_n C 0 rfl dX9_unlikePaces_9 ?_
      refine dj_getr (r := 19) (k2 := 101) C dl_X9_66 rfl dz_82 rfl dX9_unlikePaces_10 ?_
      refine dj_iload_n C 2 rfl dX9_unlikePaces_13 ?_
      refine dj_iconst C dX9_unlikePaces_14 dc_iconst_0 ?_
      refine dj_zast (n := 400) C dz_101 (by decide) dX9_unlikePaces_15 (fun S11 => ?_)
      refine dj_iinc (lv2 := [(0, .ref (g.1 82)), (1, .int x1), (2, .int (x2 + 1))]) C 2 rfl [1, 2, 0] dX9_unlikePaces_16 dc_iconst_1 (by decide) rfl ?_
      refine dj_goto (tgt := 2) C dX9_unlikePaces_19 (by decide) ?_
      exact ih (x2 + 1) S11
set_option maxRecDepth 100000 in
set_option maxHeartbeats 4000000 in
theorem ct_X9_unlikePaces (l : Launch) (g : dk_G) (x1 : Int32) (S : dk_S)  : dk_M l g yX9_unlikePaces cX9_unlikePaces 4 (some .int) 3 64 [.ref (g.1 82), .int x1] S (fX9_unlikePaces x1 S) dk_qi := by
  refine dk_enter "DuckWalkModel" (by decide +kernel) rfl (Nat.le_of_ble_eq_true rfl) [(0, .ref (g.1 82)), (1, .int x1)] rfl ?_
  intro p e s m args below meth c C
  unfold fX9_unlikePaces
  refine dj_iconst C dX9_unlikePaces_0 dc_iconst_0 ?_
  refine dj_istore_n (lv2 := [(0, .ref (g.1 82)), (1, .int x1), (2, .int 0)]) C [1, 2, 0] dX9_unlikePaces_1 rfl (by decide) rfl ?_
  refine jX9_unlikePaces_L2 C rfl x1 _ (fun t1 => ?_) dk_FU 0 S
  · refine dj_iconst C dX9_unlikePaces_22 dc_iconst_0 ?_
    refine dj_istore_n (lv2 := [(0, .ref (g.1 82)), (1, .int x1), (2, .int 0)]) C [1, 2, 0] dX9_unlikePaces_23 rfl (by decide) rfl ?_
    refine dj_aload_n C 0 rfl dX9_unlikePaces_24 ?_
    refine dj_iload_n C 1 rfl dX9_unlikePaces_25 ?_
    refine dj_iconst C dX9_unlikePaces_26 dc_iconst_0 ?_
    refine dj_callVv (t := 9) (As := [.int x1, .int 0]) C dw_X9_183 ⟨_, _, rfl⟩ (by decide) dz_82 (ct_X9_starts l g x1 0 t1) ⟨Nat.le_of_ble_eq_true rfl, Nat.le_of_ble_eq_true rfl⟩ rfl (Nat.le_of_ble_eq_true rfl) rfl dX9_unlikePaces_27 (fun r2 => ?_)
    refine dj_iconst C dX9_unlikePaces_30 dc_iconst_0 ?_
    refine dj_istore_n (lv2 := [(0, .ref (g.1 82)), (2, .int 0), (3, .int 0)]) C [1, 3, 0] dX9_unlikePaces_31 rfl (by decide) rfl ?_
    refine jX9_unlikePaces_L32 C rfl dk_FU 0 0 r2
noncomputable def fX9_mark (x1 : Int32) (x2 : Int32) (x3 : Int32) (x4 : Int32) (x5 : Int32) (S : dk_S) : Option (Int32 × dk_S) := (fX9_in x5 1 7 S).bind (fun r1 => (fX9_need r1.1 x1 x2 x3 x4 r1.2).bind (fun r2 => if 0 ≤ r2.1 then (fX9_goingOf x4 r2.2).bind (fun r4 => (fX9_isOf r4.1 x5 r4.2).bind (fun r5 => if r5.1 = 0 then (fX9_notes 3 r5.2).bind (fun r16 => some (r16.1, r16.2)) else if x5 = 1 then some (r5.2.1 82 36, r5.2) else if x5 = 2 then some ((r5.2.1 82 37) - (r5.2.1 82 36), r5.2) else if x5 = 3 then (fX9_unlikePaces x4 r5.2).bind (fun r10 => some (r10.1, r10.2)) else if x5 = 4 then some (r5.2.1 82 34, r5.2) else if x5 = 5 then some (r5.2.1 82 34, r5.2) else if x5 = 6 then (fX9_fallsAt r5.2).bind (fun r14 => some (r14.1 - (r14.2.1 82 36), r14.2)) else some (r5.2.1 82 36, r5.2))) else some (r2.1, r2.2)))
set_option maxRecDepth 100000 in
set_option maxHeartbeats 4000000 in
theorem ct_X9_mark (l : Launch) (g : dk_G) (x1 : Int32) (x2 : Int32) (x3 : Int32) (x4 : Int32) (x5 : Int32) (S : dk_S)  : dk_M l g yX9_mark cX9_mark 7 (some .int) 4 91 [.ref (g.1 82), .int x1, .int x2, .int x3, .int x4, .int x5] S (fX9_mark x1 x2 x3 x4 x5 S) dk_qi := by
  refine dk_enter "DuckWalkModel" (by decide +kernel) rfl (Nat.le_of_ble_eq_true rfl) [(0, .ref (g.1 82)), (1, .int x1), (2, .int x2), (3, .int x3), (4, .int x4), (5, .int x5)] rfl ?_
  intro p e s m args below meth c C
  unfold fX9_mark
  refine dj_aload_n C 0 rfl dX9_mark_0 ?_
  refine dj_iload C 5 rfl dX9_mark_1 ?_
  refine dj_iconst C dX9_mark_3 dc_iconst_1 ?_
  refine dj_bipush C dX9_mark_4 dc_bipush_7 ?_
  refine dj_callSi (As := [.int x5, .int 1, .int 7]) C dw_X9_80 (ct_X9_in l g x5 1 7 S) ⟨Nat.le_of_ble_eq_true rfl, Nat.le_of_ble_eq_true rfl⟩ rfl (Nat.le_of_ble_eq_true rfl) rfl dX9_mark_6 (fun r1 => ?_)
  refine dj_iload_n C 1 rfl dX9_mark_9 ?_
  refine dj_iload_n C 2 rfl dX9_mark_10 ?_
  refine dj_iload_n C 3 rfl dX9_mark_11 ?_
  refine dj_iload C 4 rfl dX9_mark_12 ?_
  refine dj_callVi (t := 9) (As := [.int r1.1, .int x1, .int x2, .int x3, .int x4]) C dw_X9_238 ⟨_, _, rfl⟩ (by decide) dz_82 (ct_X9_need l g r1.1 x1 x2 x3 x4 r1.2) ⟨Nat.le_of_ble_eq_true rfl, Nat.le_of_ble_eq_true rfl⟩ rfl (Nat.le_of_ble_eq_true rfl) rfl dX9_mark_14 (fun r2 => ?_)
  refine dj_istore (lv2 := [(0, .ref (g.1 82)), (4, .int x4), (5, .int x5), (6, .int r2.1)]) C [1, 5, 6, 0] dX9_mark_17 (by decide) rfl ?_
  refine dj_iload C 3 rfl dX9_mark_19 ?_
  refine dj_if_ge (tgt := 27) C dX9_mark_21 (by decide) (fun c3 => ?_) (fun c3 => ?_)
  · refine dj_aload_n C 0 rfl dX9_mark_27 ?_
    refine dj_iload C 1 rfl dX9_mark_28 ?_
    refine dj_callVi (t := 9) (As := [.int x4]) C dw_X9_224 ⟨_, _, rfl⟩ (by decide) dz_82 (ct_X9_goingOf l g x4 r2.2) ⟨Nat.le_of_ble_eq_true rfl, Nat.le_of_ble_eq_true rfl⟩ rfl (Nat.le_of_ble_eq_true rfl) rfl dX9_mark_30 (fun r4 => ?_)
    refine dj_iload C 2 rfl dX9_mark_33 ?_
    refine dj_callSi (As := [.int r4.1, .int x5]) C dw_X9_227 (ct_X9_isOf l g r4.1 x5 r4.2) ⟨Nat.le_of_ble_eq_true rfl, Nat.le_of_ble_eq_true rfl⟩ rfl (Nat.le_of_ble_eq_true rfl) rfl dX9_mark_35 (fun r5 => ?_)
    refine dj_if_ne (tgt := 47) C dX9_mark_38 (by decide) (fun c6 => ?_) (fun c6 => ?_)
    · refine dj_iload C 2 rfl dX9_mark_47 ?_
      refine dj_ite (fun h7 => ?_) (fun h7 => ?_)
      · refine dj_tsw_in (off := 39) (tgt := 88) C dX9_mark_49 (by rw [h7]; decide) (by rw [h7]; decide) (by rw [h7]; rfl) (by decide) ?_
        refine dj_aload_n C 0 rfl dX9_mark_88 ?_
        refine dj_geti C dl_X9_212 rfl dz_82 dX9_mark_89 ?_
        exact dj_iret C dX9_mark_92
      · refine dj_ite (fun h8 => ?_) (fun h8 => ?_)
        · refine dj_tsw_in (off := 44) (tgt := 93) C dX9_mark_49 (by rw [h8]; decide) (by rw [h8]; decide) (by rw [h8]; rfl) (by decide) ?_
          refine dj_aload_n C 0 rfl dX9_mark_93 ?_
          refine dj_geti C dl_X9_215 rfl dz_82 dX9_mark_94 ?_
          refine dj_aload_n C 0 rfl dX9_mark_97 ?_
          refine dj_geti C dl_X9_212 rfl dz_82 dX9_mark_98 ?_
          refine dj_isub C dX9_mark_101 ?_
          exact dj_iret C dX9_mark_102
        · refine dj_ite (fun h9 => ?_) (fun h9 => ?_)
          · refine dj_tsw_in (off := 54) (tgt := 103) C dX9_mark_49 (by rw [h9]; decide) (by rw [h9]; decide) (by rw [h9]; rfl) (by decide) ?_
            refine dj_aload_n C 0 rfl dX9_mark_103 ?_
            refine dj_iload C 1 rfl dX9_mark_104 ?_
            refine dj_callVi (t := 9) (As := [.int x4]) C dw_X9_242 ⟨_, _, rfl⟩ (by decide) dz_82 (ct_X9_unlikePaces l g x4 r5.2) ⟨Nat.le_of_ble_eq_true rfl, Nat.le_of_ble_eq_true rfl⟩ rfl (Nat.le_of_ble_eq_true rfl) rfl dX9_mark_106 (fun r10 => ?_)
            exact dj_iret C dX9_mark_109
          · refine dj_ite (fun h11 => ?_) (fun h11 => ?_)
            · refine dj_tsw_in (off := 61) (tgt := 110) C dX9_mark_49 (by rw [h11]; decide) (by rw [h11]; decide) (by rw [h11]; rfl) (by decide) ?_
              refine dj_aload_n C 0 rfl dX9_mark_110 ?_
              refine dj_geti C dl_X9_209 rfl dz_82 dX9_mark_111 ?_
              exact dj_iret C dX9_mark_114
            · refine dj_ite (fun h12 => ?_) (fun h12 => ?_)
              · refine dj_tsw_in (off := 66) (tgt := 115) C dX9_mark_49 (by rw [h12]; decide) (by rw [h12]; decide) (by rw [h12]; rfl) (by decide) ?_
                refine dj_aload_n C 0 rfl dX9_mark_115 ?_
                refine dj_geti C dl_X9_209 rfl dz_82 dX9_mark_116 ?_
                exact dj_iret C dX9_mark_119
              · refine dj_ite (fun h13 => ?_) (fun h13 => ?_)
                · refine dj_tsw_in (off := 71) (tgt := 120) C dX9_mark_49 (by rw [h13]; decide) (by rw [h13]; decide) (by rw [h13]; rfl) (by decide) ?_
                  refine dj_aload_n C 0 rfl dX9_mark_120 ?_
                  refine dj_callVi (t := 9) (As := []) C dw_X9_173 ⟨_, _, rfl⟩ (by decide) dz_82 (ct_X9_fallsAt l g r5.2) ⟨Nat.le_of_ble_eq_true rfl, Nat.le_of_ble_eq_true rfl⟩ rfl (Nat.le_of_ble_eq_true rfl) rfl dX9_mark_121 (fun r14 => ?_)
                  refine dj_aload_n C 0 rfl dX9_mark_124 ?_
                  refine dj_geti C dl_X9_212 rfl dz_82 dX9_mark_125 ?_
                  refine dj_isub C dX9_mark_128 ?_
                  exact dj_iret C dX9_mark_129
                · refine dj_tsw_d (tgt := 130) C dX9_mark_49 ?_ (by decide) ?_
                  · have e1 : x5.toInt ≠ 1 := fun e => h7 (dk_teq e (by decide))
                    have e2 : x5.toInt ≠ 2 := fun e => h8 (dk_teq e (by decide))
                    have e3 : x5.toInt ≠ 3 := fun e => h9 (dk_teq e (by decide))
                    have e4 : x5.toInt ≠ 4 := fun e => h11 (dk_teq e (by decide))
                    have e5 : x5.toInt ≠ 5 := fun e => h12 (dk_teq e (by decide))
                    have e6 : x5.toInt ≠ 6 := fun e => h13 (dk_teq e (by decide))
                    rcases (show x5.toInt < 1 ∨ 6 < x5.toInt by omega) with h | h
                    · exact Or.inl h
                    · exact Or.inr (Or.inl h)
                  · refine dj_aload_n C 0 rfl dX9_mark_130 ?_
                    refine dj_geti C dl_X9_212 rfl dz_82 dX9_mark_131 ?_
                    exact dj_iret C dX9_mark_134
    · refine dj_aload_n C 0 rfl dX9_mark_41 ?_
      refine dj_iconst C dX9_mark_42 dc_iconst_3 ?_
      refine dj_callVi (t := 9) (As := [.int 3]) C dw_X9_94 ⟨_, _, rfl⟩ (by decide) dz_82 (ct_X9_notes l g 3 r5.2) ⟨Nat.le_of_ble_eq_true rfl, Nat.le_of_ble_eq_true rfl⟩ rfl (Nat.le_of_ble_eq_true rfl) rfl dX9_mark_43 (fun r16 => ?_)
      exact dj_iret C dX9_mark_46
  · refine dj_iload C 3 rfl dX9_mark_24 ?_
    exact dj_iret C dX9_mark_26
noncomputable def fX9_lines_L36 (x3 : Int32) (x4 : Int32) : Nat → Int32 → Int32 → Int32 → dk_S → Option (Int32 × dk_S)
  | 0, _, _, _, _ => none
  | n + 1, x6, x7, x8, S => if 99 < x8 then (fX9_tells x6 x7 S).bind (fun r5 => some (r5.1, r5.2)) else dk_lt (dk_si S 82 21 x8) (fun S6 => (fX9_goingOf x3 S6).bind (fun r7 => (fX9_isOf r7.1 x4 r7.2).bind (fun r8 => dk_lt (fun t9 : Int32 × Int32 × dk_S => (fX9_lines_L36 x3 x4 n t9.1 t9.2.1 (x8 + 1) t9.2.2 : Option (Int32 × dk_S))) (fun k10 => if r8.1 = 0 then k10 (x6, x7, r8.2) else dk_lt (if x7 = 0 then x8 else x6) (fun y12 : Int32 => k10 (y12, x7 + 1, r8.2))))))
noncomputable def fX9_lines (x1 : Int32) (x2 : Int32) (x3 : Int32) (x4 : Int32) (S : dk_S) : Option (Int32 × dk_S) := (fX9_in x4 0 7 S).bind (fun r1 => (fX9_need r1.1 x1 x2 0 x3 r1.2).bind (fun r2 => if 0 ≤ r2.1 then fX9_lines_L36 x3 x4 dk_FU (-9) 0 0 r2.2 else some (r2.1, r2.2)))
set_option maxRecDepth 100000 in
set_option maxHeartbeats 4000000 in
theorem jX9_lines_L36 {p : Program} {l : Launch} {e : Env} {R : Room} {s : State} {m : MethodId} {args : Array Value} {below : List Frame} {meth : Method} {c : Code} {g : dk_G} (C : dk_C p l e R s m args below meth c g cX9_lines "DuckWalkModel" 9 (some .int)) (hR : R = { frames := 4, cells := 0, slots := 0, locals := 91 }) (x3 : Int32) (x4 : Int32)   : ∀ (n : Nat) (x6 : Int32) (x7 : Int32) (x8 : Int32) (S : dk_S), dk_J p l e R s m args below meth c g 9 dk_qi 36 [(0, .ref (g.1 82)), (3, .int x3), (4, .int x4), (6, .int x6), (7, .int x7), (8, .int x8)] [] S (fX9_lines_L36 x3 x4 n x6 x7 x8 S) some := by
  subst hR
  intro n
  induction n with
  | zero =>
    intro x6 x7 x8 S
    exact dj_none
  | succ n ih =>
    intro x6 x7 x8 S
    rw [fX9_lines_L36]
    refine dj_iload C 5 rfl dX9_lines_36 ?_
    refine dj_bipush C dX9_lines_38 dc_bipush_99 ?_
    refine dj_icmp_gt (tgt := 85) C dX9_lines_40 (by decide) (fun c4 => ?_) (fun c4 => ?_)
    · refine dj_aload_n C 0 rfl dX9_lines_85 ?_
      refine dj_iload C 3 rfl dX9_lines_86 ?_
      refine dj_iload C 4 rfl dX9_lines_88 ?_
      refine dj_callVi (t := 9) (As := [.int x6, .int x7]) C dw_X9_102 ⟨_, _, rfl⟩ (by decide) dz_82 (ct_X9_tells l g x6 x7 S) ⟨Nat.le_of_ble_eq_true rfl, Nat.le_of_ble_eq_true rfl⟩ rfl (Nat.le_of_ble_eq_true rfl) rfl dX9_lines_90 (fun r5 => ?_)
      exact dj_iret C dX9_lines_93
    · refine dj_aload_n C 0 rfl dX9_lines_43 ?_
      refine dj_iload C 5 rfl dX9_lines_44 ?_
      refine dj_puti C dl_X9_148 dp_9_21 rfl dz_82 dX9_lines_46 (fun S6 => ?_)
      refine dj_aload_n C 0 rfl dX9_lines_49 ?_
      refine dj_iload_n C 1 rfl dX9_lines_50 ?_
      refine dj_callVi (t := 9) (As := [.int x3]) C dw_X9_224 ⟨_, _, rfl⟩ (by decide) dz_82 (ct_X9_goingOf l g x3 S6) ⟨Nat.le_of_ble_eq_true rfl, Nat.le_of_ble_eq_true rfl⟩ rfl (Nat.le_of_ble_eq_true rfl) rfl dX9_lines_51 (fun r7 => ?_)
      refine dj_iload C 2 rfl dX9_lines_54 ?_
      refine dj_callSi (As := [.int r7.1, .int x4]) C dw_X9_227 (ct_X9_isOf l g r7.1 x4 r7.2) ⟨Nat.le_of_ble_eq_true rfl, Nat.le_of_ble_eq_true rfl⟩ rfl (Nat.le_of_ble_eq_true rfl) rfl dX9_lines_56 (fun r8 => ?_)
      refine dj_join 79 (fun t9 : Int32 × Int32 × dk_S => [(0, .ref (g.1 82)), (3, .int x3), (4, .int x4), (6, .int t9.1), (7, .int t9.2.1), (8, .int x8)]) (fun t9 : Int32 × Int32 × dk_S => []) (fun t9 : Int32 × Int32 × dk_S => t9.2.2) (fun t9 => ?_) (fun k10 hk10 => ?_)
      · refine dj_iinc (lv2 := [(0, .ref (g.1 82)), (3, .int x3), (4, .int x4), (6, .int t9.1), (7, .int t9.2.1), (8, .int (x8 + 1))]) C 5 rfl [1, 2, 3, 4, 5, 0] dX9_lines_79 dc_iconst_1 (by decide) rfl ?_
        refine dj_goto (tgt := 36) C dX9_lines_82 (by decide) ?_
        exact ih t9.1 t9.2.1 (x8 + 1) t9.2.2
      · refine dj_if_eq (tgt := 79) C dX9_lines_59 (by decide) (fun c11 => ?_) (fun c11 => ?_)
        · exact hk10 (x6, x7, r8.2)
        · refine dj_iload C 4 rfl dX9_lines_62 ?_
          refine dj_dia 74 [] (fun y12 => ?_) (fun hd12 => ?_)
          · refine dj_istore (lv2 := [(0, .ref (g.1 82)), (3, .int x3), (4, .int x4), (6, .int y12), (7, .int x7), (8, .int x8)]) C [1, 2, 3, 0, 4, 5] dX9_lines_74 (by decide) rfl ?_
            refine dj_iinc (lv2 := [(0, .ref (g.1 82)), (3, .int x3), (4, .int x4), (6, .int y12), (7, .int (x7 + 1)), (8, .int x8)]) C 4 rfl [1, 2, 3, 4, 0, 5] dX9_lines_76 dc_iconst_1 (by decide) rfl ?_
            exact hk10 (y12, x7 + 1, r8.2)
          · refine dj_ltite ?_
            refine dj_if_ne (tgt := 72) C dX9_lines_64 (by decide) (fun c13 => ?_) (fun c13 => ?_)
            · refine dj_iload C 3 rfl dX9_lines_72 ?_
              exact hd12 _
            · refine dj_iload C 5 rfl dX9_lines_67 ?_
              refine dj_goto (tgt := 74) C dX9_lines_69 (by decide) ?_
              exact hd12 _
set_option maxRecDepth 100000 in
set_option maxHeartbeats 4000000 in
theorem ct_X9_lines (l : Launch) (g : dk_G) (x1 : Int32) (x2 : Int32) (x3 : Int32) (x4 : Int32) (S : dk_S)  : dk_M l g yX9_lines cX9_lines 9 (some .int) 4 91 [.ref (g.1 82), .int x1, .int x2, .int x3, .int x4] S (fX9_lines x1 x2 x3 x4 S) dk_qi := by
  refine dk_enter "DuckWalkModel" (by decide +kernel) rfl (Nat.le_of_ble_eq_true rfl) [(0, .ref (g.1 82)), (1, .int x1), (2, .int x2), (3, .int x3), (4, .int x4)] rfl ?_
  intro p e s m args below meth c C
  unfold fX9_lines
  refine dj_aload_n C 0 rfl dX9_lines_0 ?_
  refine dj_iload C 4 rfl dX9_lines_1 ?_
  refine dj_iconst C dX9_lines_3 dc_iconst_0 ?_
  refine dj_bipush C dX9_lines_4 dc_bipush_7 ?_
  refine dj_callSi (As := [.int x4, .int 0, .int 7]) C dw_X9_80 (ct_X9_in l g x4 0 7 S) ⟨Nat.le_of_ble_eq_true rfl, Nat.le_of_ble_eq_true rfl⟩ rfl (Nat.le_of_ble_eq_true rfl) rfl dX9_lines_6 (fun r1 => ?_)
  refine dj_iload_n C 1 rfl dX9_lines_9 ?_
  refine dj_iload_n C 2 rfl dX9_lines_10 ?_
  refine dj_iconst C dX9_lines_11 dc_iconst_0 ?_
  refine dj_iload_n C 3 rfl dX9_lines_12 ?_
  refine dj_callVi (t := 9) (As := [.int r1.1, .int x1, .int x2, .int 0, .int x3]) C dw_X9_238 ⟨_, _, rfl⟩ (by decide) dz_82 (ct_X9_need l g r1.1 x1 x2 0 x3 r1.2) ⟨Nat.le_of_ble_eq_true rfl, Nat.le_of_ble_eq_true rfl⟩ rfl (Nat.le_of_ble_eq_true rfl) rfl dX9_lines_13 (fun r2 => ?_)
  refine dj_istore (lv2 := [(0, .ref (g.1 82)), (3, .int x3), (4, .int x4), (5, .int r2.1)]) C [1, 4, 5, 0] dX9_lines_16 (by decide) rfl ?_
  refine dj_iload C 3 rfl dX9_lines_18 ?_
  refine dj_if_ge (tgt := 26) C dX9_lines_20 (by decide) (fun c3 => ?_) (fun c3 => ?_)
  · refine dj_bipush C dX9_lines_26 dc_bipush_m9 ?_
    refine dj_istore (lv2 := [(0, .ref (g.1 82)), (3, .int x3), (4, .int x4), (6, .int (-9))]) C [1, 2, 3, 0] dX9_lines_28 (by decide) rfl ?_
    refine dj_iconst C dX9_lines_30 dc_iconst_0 ?_
    refine dj_istore (lv2 := [(0, .ref (g.1 82)), (3, .int x3), (4, .int x4), (6, .int (-9)), (7, .int 0)]) C [1, 2, 3, 4, 0] dX9_lines_31 (by decide) rfl ?_
    refine dj_iconst C dX9_lines_33 dc_iconst_0 ?_
    refine dj_istore (lv2 := [(0, .ref (g.1 82)), (3, .int x3), (4, .int x4), (6, .int (-9)), (7, .int 0), (8, .int 0)]) C [1, 2, 3, 4, 5, 0] dX9_lines_34 (by decide) rfl ?_
    refine jX9_lines_L36 C rfl x3 x4 dk_FU (-9) 0 0 r2.2
  · refine dj_iload C 3 rfl dX9_lines_23 ?_
    exact dj_iret C dX9_lines_25
noncomputable def fX9_begins_L29  : Nat → Int32 → Int32 → Int32 → dk_S → Option (Int32 × dk_S)
  | 0, _, _, _, _ => none
  | n + 1, x5, x6, x7, S => if 99 < x7 then (fX9_tells x5 x6 S).bind (fun r4 => some (r4.1, r4.2)) else (fX9_walksWell x7 S).bind (fun r5 => dk_lt (fun t6 : Int32 × Int32 × dk_S => (fX9_begins_L29 n t6.1 t6.2.1 (x7 + 1) t6.2.2 : Option (Int32 × dk_S))) (fun k7 => if r5.1 = 0 then k7 (x5, x6, r5.2) else dk_lt (if x6 = 0 then x7 else x5) (fun y9 : Int32 => k7 (y9, x6 + 1, r5.2))))
noncomputable def fX9_begins (x1 : Int32) (x2 : Int32) (x3 : Int32) (S : dk_S) : Option (Int32 × dk_S) := (fX9_need 1 x1 x2 x3 0 S).bind (fun r1 => if 0 ≤ r1.1 then fX9_begins_L29 dk_FU (-9) 0 0 r1.2 else some (r1.1, r1.2))
set_option maxRecDepth 100000 in
set_option maxHeartbeats 4000000 in
theorem jX9_begins_L29 {p : Program} {l : Launch} {e : Env} {R : Room} {s : State} {m : MethodId} {args : Array Value} {below : List Frame} {meth : Method} {c : Code} {g : dk_G} (C : dk_C p l e R s m args below meth c g cX9_begins "DuckWalkModel" 8 (some .int)) (hR : R = { frames := 5, cells := 0, slots := 0, locals := 108 })    : ∀ (n : Nat) (x5 : Int32) (x6 : Int32) (x7 : Int32) (S : dk_S), dk_J p l e R s m args below meth c g 8 dk_qi 29 [(0, .ref (g.1 82)), (5, .int x5), (6, .int x6), (7, .int x7)] [] S (fX9_begins_L29 n x5 x6 x7 S) some := by
  subst hR
  intro n
  induction n with
  | zero =>
    intro x5 x6 x7 S
    exact dj_none
  | succ n ih =>
    intro x5 x6 x7 S
    rw [fX9_begins_L29]
    refine dj_iload C 3 rfl dX9_begins_29 ?_
    refine dj_bipush C dX9_begins_31 dc_bipush_99 ?_
    refine dj_icmp_gt (tgt := 68) C dX9_begins_33 (by decide) (fun c3 => ?_) (fun c3 => ?_)
    · refine dj_aload_n C 0 rfl dX9_begins_68 ?_
      refine dj_iload C 1 rfl dX9_begins_69 ?_
      refine dj_iload C 2 rfl dX9_begins_71 ?_
      refine dj_callVi (t := 9) (As := [.int x5, .int x6]) C dw_X9_102 ⟨_, _, rfl⟩ (by decide) dz_82 (ct_X9_tells l g x5 x6 S) ⟨Nat.le_of_ble_eq_true rfl, Nat.le_of_ble_eq_true rfl⟩ rfl (Nat.le_of_ble_eq_true rfl) rfl dX9_begins_73 (fun r4 => ?_)
      exact dj_iret C dX9_begins_76
    · refine dj_aload_n C 0 rfl dX9_begins_36 ?_
      refine dj_iload C 3 rfl dX9_begins_37 ?_
      refine dj_callVi (t := 9) (As := [.int x7]) C dw_X9_245 ⟨_, _, rfl⟩ (by decide) dz_82 (ct_X9_walksWell l g x7 S) ⟨Nat.le_of_ble_eq_true rfl, Nat.le_of_ble_eq_true rfl⟩ rfl (Nat.le_of_ble_eq_true rfl) rfl dX9_begins_39 (fun r5 => ?_)
      refine dj_join 62 (fun t6 : Int32 × Int32 × dk_S => [(0, .ref (g.1 82)), (5, .int t6.1), (6, .int t6.2.1), (7, .int x7)]) (fun t6 : Int32 × Int32 × dk_S => []) (fun t6 : Int32 × Int32 × dk_S => t6.2.2) (fun t6 => ?_) (fun k7 hk7 => ?_)
      · refine dj_iinc (lv2 := [(0, .ref (g.1 82)), (5, .int t6.1), (6, .int t6.2.1), (7, .int (x7 + 1))]) C 3 rfl [1, 2, 3, 0] dX9_begins_62 dc_iconst_1 (by decide) rfl ?_
        refine dj_goto (tgt := 29) C dX9_begins_65 (by decide) ?_
        exact ih t6.1 t6.2.1 (x7 + 1) t6.2.2
      · refine dj_if_eq (tgt := 62) C dX9_begins_42 (by decide) (fun c8 => ?_) (fun c8 => ?_)
        · exact hk7 (x5, x6, r5.2)
        · refine dj_iload C 2 rfl dX9_begins_45 ?_
          refine dj_dia 57 [] (fun y9 => ?_) (fun hd9 => ?_)
          · refine dj_istore (lv2 := [(0, .ref (g.1 82)), (5, .int y9), (6, .int x6), (7, .int x7)]) C [1, 0, 2, 3] dX9_begins_57 (by decide) rfl ?_
            refine dj_iinc (lv2 := [(0, .ref (g.1 82)), (5, .int y9), (6, .int (x6 + 1)), (7, .int x7)]) C 2 rfl [1, 2, 0, 3] dX9_begins_59 dc_iconst_1 (by decide) rfl ?_
            exact hk7 (y9, x6 + 1, r5.2)
          · refine dj_ltite ?_
            refine dj_if_ne (tgt := 55) C dX9_begins_47 (by decide) (fun c10 => ?_) (fun c10 => ?_)
            · refine dj_iload C 1 rfl dX9_begins_55 ?_
              exact hd9 _
            · refine dj_iload C 3 rfl dX9_begins_50 ?_
              refine dj_goto (tgt := 57) C dX9_begins_52 (by decide) ?_
              exact hd9 _
set_option maxRecDepth 100000 in
set_option maxHeartbeats 4000000 in
theorem ct_X9_begins (l : Launch) (g : dk_G) (x1 : Int32) (x2 : Int32) (x3 : Int32) (S : dk_S)  : dk_M l g yX9_begins cX9_begins 8 (some .int) 5 108 [.ref (g.1 82), .int x1, .int x2, .int x3] S (fX9_begins x1 x2 x3 S) dk_qi := by
  refine dk_enter "DuckWalkModel" (by decide +kernel) rfl (Nat.le_of_ble_eq_true rfl) [(0, .ref (g.1 82)), (1, .int x1), (2, .int x2), (3, .int x3)] rfl ?_
  intro p e s m args below meth c C
  unfold fX9_begins
  refine dj_aload_n C 0 rfl dX9_begins_0 ?_
  refine dj_iconst C dX9_begins_1 dc_iconst_1 ?_
  refine dj_iload_n C 1 rfl dX9_begins_2 ?_
  refine dj_iload_n C 2 rfl dX9_begins_3 ?_
  refine dj_iload_n C 3 rfl dX9_begins_4 ?_
  refine dj_iconst C dX9_begins_5 dc_iconst_0 ?_
  refine dj_callVi (t := 9) (As := [.int 1, .int x1, .int x2, .int x3, .int 0]) C dw_X9_238 ⟨_, _, rfl⟩ (by decide) dz_82 (ct_X9_need l g 1 x1 x2 x3 0 S) ⟨Nat.le_of_ble_eq_true rfl, Nat.le_of_ble_eq_true rfl⟩ rfl (Nat.le_of_ble_eq_true rfl) rfl dX9_begins_6 (fun r1 => ?_)
  refine dj_istore (lv2 := [(0, .ref (g.1 82)), (4, .int r1.1)]) C [1, 0] dX9_begins_9 (by decide) rfl ?_
  refine dj_iload C 1 rfl dX9_begins_11 ?_
  refine dj_if_ge (tgt := 19) C dX9_begins_13 (by decide) (fun c2 => ?_) (fun c2 => ?_)
  · refine dj_bipush C dX9_begins_19 dc_bipush_m9 ?_
    refine dj_istore (lv2 := [(0, .ref (g.1 82)), (5, .int (-9))]) C [1, 0] dX9_begins_21 (by decide) rfl ?_
    refine dj_iconst C dX9_begins_23 dc_iconst_0 ?_
    refine dj_istore (lv2 := [(0, .ref (g.1 82)), (5, .int (-9)), (6, .int 0)]) C [1, 2, 0] dX9_begins_24 (by decide) rfl ?_
    refine dj_iconst C dX9_begins_26 dc_iconst_0 ?_
    refine dj_istore (lv2 := [(0, .ref (g.1 82)), (5, .int (-9)), (6, .int 0), (7, .int 0)]) C [1, 2, 3, 0] dX9_begins_27 (by decide) rfl ?_
    refine jX9_begins_L29 C rfl dk_FU (-9) 0 0 r1.2
  · refine dj_iload C 1 rfl dX9_begins_16 ?_
    exact dj_iret C dX9_begins_18
noncomputable def fX9_mends_L61 (x7 : Int32) : Nat → Int32 → dk_S → Option (Int32 × dk_S)
  | 0, _, _ => none
  | n + 1, x8, S => if 400 ≤ x8 then some ((-9), S) else if (S.1 82 27) = 0 then (fX9_steps x8 S).bind (fun r10 => dk_lt (fun t11 : dk_S => (fX9_mends_L61 x7 n (x8 + 1) t11 : Option (Int32 × dk_S))) (fun k12 => if (r10.1 82 27) = 0 then if (r10.1 82 25) = x7 then some (x8 + 1, r10) else k12 r10 else k12 r10)) else some ((-9), S)
noncomputable def fX9_mends (x1 : Int32) (x2 : Int32) (x3 : Int32) (x4 : Int32) (x5 : Int32) (S : dk_S) : Option (Int32 × dk_S) := (fX9_in x5 1 20 S).bind (fun r1 => (fX9_need r1.1 x1 x2 x3 x4 r1.2).bind (fun r2 => if 0 ≤ r2.1 then (fX9_walksWell x4 r2.2).bind (fun r4 => if r4.1 = 0 then (fX9_notes 3 r4.2).bind (fun r15 => some (r15.1, r15.2)) else dk_lt (r4.2.1 82 36) (fun y6 : Int32 => (fX9_starts (y6 + x5) 0 r4.2).bind (fun r7 => fX9_mends_L61 y6 dk_FU 0 r7))) else some (r2.1, r2.2)))
set_option maxRecDepth 100000 in
set_option maxHeartbeats 4000000 in
theorem jX9_mends_L61 {p : Program} {l : Launch} {e : Env} {R : Room} {s : State} {m : MethodId} {args : Array Value} {below : List Frame} {meth : Method} {c : Code} {g : dk_G} (C : dk_C p l e R s m args below meth c g cX9_mends "DuckWalkModel" 9 (some .int)) (hR : R = { frames := 5, cells := 0, slots := 0, locals := 108 }) (x7 : Int32)   : ∀ (n : Nat) (x8 : Int32) (S : dk_S), dk_J p l e R s m args below meth c g 9 dk_qi 61 [(0, .ref (g.1 82)), (7, .int x7), (8, .int x8)] [] S (fX9_mends_L61 x7 n x8 S) some := by
  subst hR
  intro n
  induction n with
  | zero =>
    intro x8 S
    exact dj_none
  | succ n ih =>
    intro x8 S
    rw [fX9_mends_L61]
    refine dj_iload C 2 rfl dX9_mends_61 ?_
    refine dj_sipush C dX9_mends_63 dc_sipush_400 ?_
    refine dj_icmp_ge (tgt := 109) C dX9_mends_66 (by decide) (fun c8 => ?_) (fun c8 => ?_)
    · refine dj_bipush C dX9_mends_109 dc_bipush_m9 ?_
      exact dj_iret C dX9_mends_111
    · refine dj_aload_n C 0 rfl dX9_mends_69 ?_
      refine dj_geti C dl_X9_160 rfl dz_82 dX9_mends_70 ?_
      refine dj_if_ne (tgt := 109) C dX9_mends_73 (by decide) (fun c9 => ?_) (fun c9 => ?_)
      · refine dj_bipush C dX9_mends_109 dc_bipush_m9 ?_
        exact dj_iret C dX9_mends_111
      · refine dj_aload_n C 0 rfl dX9_mends_76 ?_
        refine dj_iload C 2 rfl dX9_mends_77 ?_
        refine dj_callVv (t := 9) (As := [.int x8]) C dw_X9_206 ⟨_, _, rfl⟩ (by decide) dz_82 (ct_X9_steps l g x8 S) ⟨Nat.le_of_ble_eq_true rfl, Nat.le_of_ble_eq_true rfl⟩ rfl (Nat.le_of_ble_eq_true rfl) rfl dX9_mends_79 (fun r10 => ?_)
        refine dj_aload_n C 0 rfl dX9_mends_82 ?_
        refine dj_geti C dl_X9_160 rfl dz_82 dX9_mends_83 ?_
        refine dj_join 103 (fun t11 : dk_S => [(0, .ref (g.1 82)), (7, .int x7), (8, .int x8)]) (fun t11 : dk_S => []) (fun t11 : dk_S => t11) (fun t11 => ?_) (fun k12 hk12 => ?_)
        · refine dj_iinc (lv2 := [(0, .ref (g.1 82)), (7, .int x7), (8, .int (x8 + 1))]) C 2 rfl [1, 2, 0] dX9_mends_103 dc_iconst_1 (by decide) rfl ?_
          refine dj_goto (tgt := 61) C dX9_mends_106 (by decide) ?_
          exact ih (x8 + 1) t11
        · refine dj_if_ne (tgt := 103) C dX9_mends_86 (by decide) (fun c13 => ?_) (fun c13 => ?_)
          · exact hk12 r10
          · refine dj_aload_n C 0 rfl dX9_mends_89 ?_
            refine dj_geti C dl_X9_154 rfl dz_82 dX9_mends_90 ?_
            refine dj_iload C 1 rfl dX9_mends_93 ?_
            refine dj_icmp_ne (tgt := 103) C dX9_mends_95 (by decide) (fun c14 => ?_) (fun c14 => ?_)
            · exact hk12 r10
            · refine dj_iload C 2 rfl dX9_mends_98 ?_
              refine dj_iconst C dX9_mends_100 dc_iconst_1 ?_
              refine dj_iadd C dX9_mends_101 ?_
              exact dj_iret C dX9_mends_102
set_option maxRecDepth 100000 in
set_option maxHeartbeats 4000000 in
theorem ct_X9_mends (l : Launch) (g : dk_G) (x1 : Int32) (x2 : Int32) (x3 : Int32) (x4 : Int32) (x5 : Int32) (S : dk_S)  : dk_M l g yX9_mends cX9_mends 9 (some .int) 5 108 [.ref (g.1 82), .int x1, .int x2, .int x3, .int x4, .int x5] S (fX9_mends x1 x2 x3 x4 x5 S) dk_qi := by
  refine dk_enter "DuckWalkModel" (by decide +kernel) rfl (Nat.le_of_ble_eq_true rfl) [(0, .ref (g.1 82)), (1, .int x1), (2, .int x2), (3, .int x3), (4, .int x4), (5, .int x5)] rfl ?_
  intro p e s m args below meth c C
  unfold fX9_mends
  refine dj_aload_n C 0 rfl dX9_mends_0 ?_
  refine dj_iload C 5 rfl dX9_mends_1 ?_
  refine dj_iconst C dX9_mends_3 dc_iconst_1 ?_
  refine dj_bipush C dX9_mends_4 dc_bipush_20 ?_
  refine dj_callSi (As := [.int x5, .int 1, .int 20]) C dw_X9_80 (ct_X9_in l g x5 1 20 S) ⟨Nat.le_of_ble_eq_true rfl, Nat.le_of_ble_eq_true rfl⟩ rfl (Nat.le_of_ble_eq_true rfl) rfl dX9_mends_6 (fun r1 => ?_)
  refine dj_iload_n C 1 rfl dX9_mends_9 ?_
  refine dj_iload_n C 2 rfl dX9_mends_10 ?_
  refine dj_iload_n C 3 rfl dX9_mends_11 ?_
  refine dj_iload C 4 rfl dX9_mends_12 ?_
  refine dj_callVi (t := 9) (As := [.int r1.1, .int x1, .int x2, .int x3, .int x4]) C dw_X9_238 ⟨_, _, rfl⟩ (by decide) dz_82 (ct_X9_need l g r1.1 x1 x2 x3 x4 r1.2) ⟨Nat.le_of_ble_eq_true rfl, Nat.le_of_ble_eq_true rfl⟩ rfl (Nat.le_of_ble_eq_true rfl) rfl dX9_mends_14 (fun r2 => ?_)
  refine dj_istore (lv2 := [(0, .ref (g.1 82)), (4, .int x4), (5, .int x5), (6, .int r2.1)]) C [1, 5, 6, 0] dX9_mends_17 (by decide) rfl ?_
  refine dj_iload C 3 rfl dX9_mends_19 ?_
  refine dj_if_ge (tgt := 27) C dX9_mends_21 (by decide) (fun c3 => ?_) (fun c3 => ?_)
  · refine dj_aload_n C 0 rfl dX9_mends_27 ?_
    refine dj_iload C 1 rfl dX9_mends_28 ?_
    refine dj_callVi (t := 9) (As := [.int x4]) C dw_X9_245 ⟨_, _, rfl⟩ (by decide) dz_82 (ct_X9_walksWell l g x4 r2.2) ⟨Nat.le_of_ble_eq_true rfl, Nat.le_of_ble_eq_true rfl⟩ rfl (Nat.le_of_ble_eq_true rfl) rfl dX9_mends_30 (fun r4 => ?_)
    refine dj_if_ne (tgt := 42) C dX9_mends_33 (by decide) (fun c5 => ?_) (fun c5 => ?_)
    · refine dj_aload_n C 0 rfl dX9_mends_42 ?_
      refine dj_geti C dl_X9_212 rfl dz_82 dX9_mends_43 ?_
      refine dj_lti (fun y6 => ?_)
      refine dj_istore (lv2 := [(0, .ref (g.1 82)), (5, .int x5), (7, .int y6)]) C [1, 3, 0] dX9_mends_46 (by decide) rfl ?_
      refine dj_aload_n C 0 rfl dX9_mends_48 ?_
      refine dj_iload C 2 rfl dX9_mends_49 ?_
      refine dj_iload C 1 rfl dX9_mends_51 ?_
      refine dj_iadd C dX9_mends_53 ?_
      refine dj_iconst C dX9_mends_54 dc_iconst_0 ?_
      refine dj_callVv (t := 9) (As := [.int (y6 + x5), .int 0]) C dw_X9_183 ⟨_, _, rfl⟩ (by decide) dz_82 (ct_X9_starts l g (y6 + x5) 0 r4.2) ⟨Nat.le_of_ble_eq_true rfl, Nat.le_of_ble_eq_true rfl⟩ rfl (Nat.le_of_ble_eq_true rfl) rfl dX9_mends_55 (fun r7 => ?_)
      refine dj_iconst C dX9_mends_58 dc_iconst_0 ?_
      refine dj_istore (lv2 := [(0, .ref (g.1 82)), (7, .int y6), (8, .int 0)]) C [1, 3, 0] dX9_mends_59 (by decide) rfl ?_
      refine jX9_mends_L61 C rfl y6 dk_FU 0 r7
    · refine dj_aload_n C 0 rfl dX9_mends_36 ?_
      refine dj_iconst C dX9_mends_37 dc_iconst_3 ?_
      refine dj_callVi (t := 9) (As := [.int 3]) C dw_X9_94 ⟨_, _, rfl⟩ (by decide) dz_82 (ct_X9_notes l g 3 r4.2) ⟨Nat.le_of_ble_eq_true rfl, Nat.le_of_ble_eq_true rfl⟩ rfl (Nat.le_of_ble_eq_true rfl) rfl dX9_mends_38 (fun r15 => ?_)
      exact dj_iret C dX9_mends_41
  · refine dj_iload C 3 rfl dX9_mends_24 ?_
    exact dj_iret C dX9_mends_26
noncomputable def fX9_span_L4 (x1 : Int32) : Nat → Int32 → Int32 → dk_S → Option (Int32 × dk_S)
  | 0, _, _, _ => none
  | n + 1, x2, x3, S => if 99 < x3 then some (x2, S) else dk_lt (dk_si S 82 21 x3) (fun S2 => (fX9_walksWell x1 S2).bind (fun r3 => dk_lt (if r3.1 = 0 then 0 else 1) (fun y4 : Int32 => dk_lt (x2 + y4) (fun y5 : Int32 => fX9_span_L4 x1 n y5 (x3 + 1) r3.2))))
noncomputable def fX9_span (x1 : Int32) (S : dk_S) : Option (Int32 × dk_S) := fX9_span_L4 x1 dk_FU 0 0 S
set_option maxRecDepth 100000 in
set_option maxHeartbeats 4000000 in
theorem jX9_span_L4 {p : Program} {l : Launch} {e : Env} {R : Room} {s : State} {m : MethodId} {args : Array Value} {below : List Frame} {meth : Method} {c : Code} {g : dk_G} (C : dk_C p l e R s m args below meth c g cX9_span "DuckWalkModel" 4 (some .int)) (hR : R = { frames := 5, cells := 0, slots := 0, locals := 108 }) (x1 : Int32)   : ∀ (n : Nat) (x2 : Int32) (x3 : Int32) (S : dk_S), dk_J p l e R s m args below meth c g 4 dk_qi 4 [(0, .ref (g.1 82)), (1, .int x1), (2, .int x2), (3, .int x3)] [] S (fX9_span_L4 x1 n x2 x3 S) some := by
  subst hR
  intro n
  induction n with
  | zero =>
    intro x2 x3 S
    exact dj_none
  | succ n ih =>
    intro x2 x3 S
    rw [fX9_span_L4]
    refine dj_iload_n C 3 rfl dX9_span_4 ?_
    refine dj_bipush C dX9_span_5 dc_bipush_99 ?_
    refine dj_icmp_gt (tgt := 37) C dX9_span_7 (by decide) (fun c1 => ?_) (fun c1 => ?_)
    · refine dj_iload_n C 2 rfl dX9_span_37 ?_
      exact dj_iret C dX9_span_38
    · refine dj_aload_n C 0 rfl dX9_span_10 ?_
      refine dj_iload_n C 3 rfl dX9_span_11 ?_
      refine dj_puti C dl_X9_148 dp_9_21 rfl dz_82 dX9_span_12 (fun S2 => ?_)
      refine dj_iload_n C 2 rfl dX9_span_15 ?_
      refine dj_aload_n C 0 rfl dX9_span_16 ?_
      refine dj_iload_n C 1 rfl dX9_span_17 ?_
      refine dj_callVi (t := 9) (As := [.int x1]) C dw_X9_245 ⟨_, _, rfl⟩ (by decide) dz_82 (ct_X9_walksWell l g x1 S2) ⟨Nat.le_of_ble_eq_true rfl, Nat.le_of_ble_eq_true rfl⟩ rfl (Nat.le_of_ble_eq_true rfl) rfl dX9_span_18 (fun r3 => ?_)
      refine dj_dia 29 [.int x2] (fun y4 => ?_) (fun hd4 => ?_)
      · refine dj_iadd C dX9_span_29 ?_
        refine dj_lti (fun y5 => ?_)
        refine dj_istore_n (lv2 := [(0, .ref (g.1 82)), (1, .int x1), (2, .int y5), (3, .int x3)]) C [1, 2, 0, 3] dX9_span_30 rfl (by decide) rfl ?_
        refine dj_iinc (lv2 := [(0, .ref (g.1 82)), (1, .int x1), (2, .int y5), (3, .int (x3 + 1))]) C 3 rfl [1, 2, 3, 0] dX9_span_31 dc_iconst_1 (by decide) rfl ?_
        refine dj_goto (tgt := 4) C dX9_span_34 (by decide) ?_
        exact ih y5 (x3 + 1) r3.2
      · refine dj_ltite ?_
        refine dj_if_eq (tgt := 28) C dX9_span_21 (by decide) (fun c6 => ?_) (fun c6 => ?_)
        · refine dj_iconst C dX9_span_28 dc_iconst_0 ?_
          exact hd4 _
        · refine dj_iconst C dX9_span_24 dc_iconst_1 ?_
          refine dj_goto (tgt := 29) C dX9_span_25 (by decide) ?_
          exact hd4 _
set_option maxRecDepth 100000 in
set_option maxHeartbeats 4000000 in
theorem ct_X9_span (l : Launch) (g : dk_G) (x1 : Int32) (S : dk_S)  : dk_M l g yX9_span cX9_span 4 (some .int) 5 108 [.ref (g.1 82), .int x1] S (fX9_span x1 S) dk_qi := by
  refine dk_enter "DuckWalkModel" (by decide +kernel) rfl (Nat.le_of_ble_eq_true rfl) [(0, .ref (g.1 82)), (1, .int x1)] rfl ?_
  intro p e s m args below meth c C
  unfold fX9_span
  refine dj_iconst C dX9_span_0 dc_iconst_0 ?_
  refine dj_istore_n (lv2 := [(0, .ref (g.1 82)), (1, .int x1), (2, .int 0)]) C [1, 2, 0] dX9_span_1 rfl (by decide) rfl ?_
  refine dj_iconst C dX9_span_2 dc_iconst_0 ?_
  refine dj_istore_n (lv2 := [(0, .ref (g.1 82)), (1, .int x1), (2, .int 0), (3, .int 0)]) C [1, 2, 3, 0] dX9_span_3 rfl (by decide) rfl ?_
  refine jX9_span_L4 C rfl x1 dk_FU 0 0 S
noncomputable def fX9_wide_L29 (x3 : Int32) : Nat → Int32 → Int32 → Int32 → dk_S → Option (Int32 × dk_S)
  | 0, _, _, _, _ => none
  | n + 1, x5, x6, x7, S => if 81 ≤ x7 then (fX9_tells x6 x5 S).bind (fun r4 => some (r4.1, r4.2)) else dk_lt (dk_si S 95 1 (1 + (x7 / 9))) (fun S5 => dk_lt (dk_si S5 95 2 (1 + (x7 - x7 / 9 * 9))) (fun S6 => (fX9_span x3 S6).bind (fun r7 => dk_lt (if r7.1 ≤ x6 then x5 else (10 * (r7.2.1 95 1)) + (r7.2.1 95 2)) (fun y8 : Int32 => (fX9_greater x6 r7.1 r7.2).bind (fun r9 => fX9_wide_L29 x3 n y8 r9.1 (x7 + 1) r9.2)))))
noncomputable def fX9_wide (x1 : Int32) (x2 : Int32) (x3 : Int32) (S : dk_S) : Option (Int32 × dk_S) := (fX9_need 1 x1 x2 0 x3 S).bind (fun r1 => if 0 ≤ r1.1 then fX9_wide_L29 x3 dk_FU (-9) (-1) 0 r1.2 else some (r1.1, r1.2))
set_option maxRecDepth 100000 in
set_option maxHeartbeats 4000000 in
theorem jX9_wide_L29 {p : Program} {l : Launch} {e : Env} {R : Room} {s : State} {m : MethodId} {args : Array Value} {below : List Frame} {meth : Method} {c : Code} {g : dk_G} (C : dk_C p l e R s m args below meth c g cX9_wide "DuckWalkModel" 9 (some .int)) (hR : R = { frames := 6, cells := 0, slots := 0, locals := 131 }) (x3 : Int32)   : ∀ (n : Nat) (x5 : Int32) (x6 : Int32) (x7 : Int32) (S : dk_S), dk_J p l e R s m args below meth c g 9 dk_qi 29 [(0, .ref (g.1 82)), (3, .int x3), (5, .int x5), (6, .int x6), (7, .int x7)] [] S (fX9_wide_L29 x3 n x5 x6 x7 S) some := by
  subst hR
  intro n
  induction n with
  | zero =>
    intro x5 x6 x7 S
    exact dj_none
  | succ n ih =>
    intro x5 x6 x7 S
    rw [fX9_wide_L29]
    refine dj_iload C 4 rfl dX9_wide_29 ?_
    refine dj_bipush C dX9_wide_31 dc_bipush_81 ?_
    refine dj_icmp_ge (tgt := 114) C dX9_wide_33 (by decide) (fun c3 => ?_) (fun c3 => ?_)
    · refine dj_aload_n C 0 rfl dX9_wide_114 ?_
      refine dj_iload C 3 rfl dX9_wide_115 ?_
      refine dj_iload C 2 rfl dX9_wide_117 ?_
      refine dj_callVi (t := 9) (As := [.int x6, .int x5]) C dw_X9_102 ⟨_, _, rfl⟩ (by decide) dz_82 (ct_X9_tells l g x6 x5 S) ⟨Nat.le_of_ble_eq_true rfl, Nat.le_of_ble_eq_true rfl⟩ rfl (Nat.le_of_ble_eq_true rfl) rfl dX9_wide_119 (fun r4 => ?_)
      exact dj_iret C dX9_wide_122
    · refine dj_aload_n C 0 rfl dX9_wide_36 ?_
      refine dj_getr (r := 13) (k2 := 95) C dl_X9_48 rfl dz_82 rfl dX9_wide_37 ?_
      refine dj_iconst C dX9_wide_40 dc_iconst_1 ?_
      refine dj_iconst C dX9_wide_41 dc_iconst_1 ?_
      refine dj_iload C 4 rfl dX9_wide_42 ?_
      refine dj_bipush C dX9_wide_44 dc_bipush_9 ?_
      refine dj_idiv C dX9_wide_46 (by decide) ?_
      refine dj_iadd C dX9_wide_47 ?_
      refine dj_iastn (n := 6) (j := 1) C dz_95 (by decide) (by decide) (by decide) dX9_wide_48 (fun S5 => ?_)
      refine dj_aload_n C 0 rfl dX9_wide_49 ?_
      refine dj_getr (r := 13) (k2 := 95) C dl_X9_48 rfl dz_82 rfl dX9_wide_50 ?_
      refine dj_iconst C dX9_wide_53 dc_iconst_2 ?_
      refine dj_iconst C dX9_wide_54 dc_iconst_1 ?_
      refine dj_iload C 4 rfl dX9_wide_55 ?_
      refine dj_bipush C dX9_wide_57 dc_bipush_9 ?_
      refine dj_irem C dX9_wide_59 (by decide) ?_
      refine dj_iadd C dX9_wide_60 ?_
      refine dj_iastn (n := 6) (j := 2) C dz_95 (by decide) (by decide) (by decide) dX9_wide_61 (fun S6 => ?_)
      refine dj_aload_n C 0 rfl dX9_wide_62 ?_
      refine dj_iload_n C 1 rfl dX9_wide_63 ?_
      refine dj_callVi (t := 9) (As := [.int x3]) C dw_X9_248 ⟨_, _, rfl⟩ (by decide) dz_82 (ct_X9_span l g x3 S6) ⟨Nat.le_of_ble_eq_true rfl, Nat.le_of_ble_eq_true rfl⟩ rfl (Nat.le_of_ble_eq_true rfl) rfl dX9_wide_64 (fun r7 => ?_)
      refine dj_istore (lv2 := [(0, .ref (g.1 82)), (3, .int x3), (5, .int x5), (6, .int x6), (7, .int x7), (8, .int r7.1)]) C [1, 2, 3, 4, 5, 0] dX9_wide_67 (by decide) rfl ?_
      refine dj_iload C 5 rfl dX9_wide_69 ?_
      refine dj_iload C 3 rfl dX9_wide_71 ?_
      refine dj_dia 97 [] (fun y8 => ?_) (fun hd8 => ?_)
      · refine dj_istore (lv2 := [(0, .ref (g.1 82)), (3, .int x3), (5, .int y8), (6, .int x6), (7, .int x7), (8, .int r7.1)]) C [1, 2, 0, 3, 4, 5] dX9_wide_97 (by decide) rfl ?_
        refine dj_iload C 3 rfl dX9_wide_99 ?_
        refine dj_iload C 5 rfl dX9_wide_101 ?_
        refine dj_callSi (As := [.int x6, .int r7.1]) C dw_X9_221 (ct_X9_greater l g x6 r7.1 r7.2) ⟨Nat.le_of_ble_eq_true rfl, Nat.le_of_ble_eq_true rfl⟩ rfl (Nat.le_of_ble_eq_true rfl) rfl dX9_wide_103 (fun r9 => ?_)
        refine dj_istore (lv2 := [(0, .ref (g.1 82)), (3, .int x3), (5, .int y8), (6, .int r9.1), (7, .int x7)]) C [1, 2, 3, 0, 4] dX9_wide_106 (by decide) rfl ?_
        refine dj_iinc (lv2 := [(0, .ref (g.1 82)), (3, .int x3), (5, .int y8), (6, .int r9.1), (7, .int (x7 + 1))]) C 4 rfl [1, 2, 3, 4, 0] dX9_wide_108 dc_iconst_1 (by decide) rfl ?_
        refine dj_goto (tgt := 29) C dX9_wide_111 (by decide) ?_
        exact ih y8 r9.1 (x7 + 1) r9.2
      · refine dj_ltite ?_
        refine dj_icmp_le (tgt := 95) C dX9_wide_73 (by decide) (fun c10 => ?_) (fun c10 => ?_)
        · refine dj_iload C 2 rfl dX9_wide_95 ?_
          exact hd8 _
        · refine dj_bipush C dX9_wide_76 dc_bipush_10 ?_
          refine dj_aload_n C 0 rfl dX9_wide_78 ?_
          refine dj_getr (r := 13) (k2 := 95) C dl_X9_48 rfl dz_82 rfl dX9_wide_79 ?_
          refine dj_iconst C dX9_wide_82 dc_iconst_1 ?_
          refine dj_ialdn (n := 6) (j := 1) C dz_95 (by decide) (by decide) (by decide) dX9_wide_83 ?_
          refine dj_imul C dX9_wide_84 ?_
          refine dj_aload_n C 0 rfl dX9_wide_85 ?_
          refine dj_getr (r := 13) (k2 := 95) C dl_X9_48 rfl dz_82 rfl dX9_wide_86 ?_
          refine dj_iconst C dX9_wide_89 dc_iconst_2 ?_
          refine dj_ialdn (n := 6) (j := 2) C dz_95 (by decide) (by decide) (by decide) dX9_wide_90 ?_
          refine dj_iadd C dX9_wide_91 ?_
          refine dj_goto (tgt := 97) C dX9_wide_92 (by decide) ?_
          exact hd8 _
set_option maxRecDepth 100000 in
set_option maxHeartbeats 4000000 in
theorem ct_X9_wide (l : Launch) (g : dk_G) (x1 : Int32) (x2 : Int32) (x3 : Int32) (S : dk_S)  : dk_M l g yX9_wide cX9_wide 9 (some .int) 6 131 [.ref (g.1 82), .int x1, .int x2, .int x3] S (fX9_wide x1 x2 x3 S) dk_qi := by
  refine dk_enter "DuckWalkModel" (by decide +kernel) rfl (Nat.le_of_ble_eq_true rfl) [(0, .ref (g.1 82)), (1, .int x1), (2, .int x2), (3, .int x3)] rfl ?_
  intro p e s m args below meth c C
  unfold fX9_wide
  refine dj_aload_n C 0 rfl dX9_wide_0 ?_
  refine dj_iconst C dX9_wide_1 dc_iconst_1 ?_
  refine dj_iload_n C 1 rfl dX9_wide_2 ?_
  refine dj_iload_n C 2 rfl dX9_wide_3 ?_
  refine dj_iconst C dX9_wide_4 dc_iconst_0 ?_
  refine dj_iload_n C 3 rfl dX9_wide_5 ?_
  refine dj_callVi (t := 9) (As := [.int 1, .int x1, .int x2, .int 0, .int x3]) C dw_X9_238 ⟨_, _, rfl⟩ (by decide) dz_82 (ct_X9_need l g 1 x1 x2 0 x3 S) ⟨Nat.le_of_ble_eq_true rfl, Nat.le_of_ble_eq_true rfl⟩ rfl (Nat.le_of_ble_eq_true rfl) rfl dX9_wide_6 (fun r1 => ?_)
  refine dj_istore (lv2 := [(0, .ref (g.1 82)), (3, .int x3), (4, .int r1.1)]) C [1, 4, 0] dX9_wide_9 (by decide) rfl ?_
  refine dj_iload C 2 rfl dX9_wide_11 ?_
  refine dj_if_ge (tgt := 19) C dX9_wide_13 (by decide) (fun c2 => ?_) (fun c2 => ?_)
  · refine dj_bipush C dX9_wide_19 dc_bipush_m9 ?_
    refine dj_istore (lv2 := [(0, .ref (g.1 82)), (3, .int x3), (5, .int (-9))]) C [1, 2, 0] dX9_wide_21 (by decide) rfl ?_
    refine dj_iconst C dX9_wide_23 dc_iconst_m1 ?_
    refine dj_istore (lv2 := [(0, .ref (g.1 82)), (3, .int x3), (5, .int (-9)), (6, .int (-1))]) C [1, 2, 3, 0] dX9_wide_24 (by decide) rfl ?_
    refine dj_iconst C dX9_wide_26 dc_iconst_0 ?_
    refine dj_istore (lv2 := [(0, .ref (g.1 82)), (3, .int x3), (5, .int (-9)), (6, .int (-1)), (7, .int 0)]) C [1, 2, 3, 4, 0] dX9_wide_27 (by decide) rfl ?_
    refine jX9_wide_L29 C rfl x3 dk_FU (-9) (-1) 0 r1.2
  · refine dj_iload C 2 rfl dX9_wide_16 ?_
    exact dj_iret C dX9_wide_18
noncomputable def fX9_mend_L33 (x4 : Int32) (x6 : Int32) (kx82 : (Int32 × dk_S) → Option (Int32 × dk_S)) (kx108 : dk_S → Option (Int32 × dk_S)) : Nat → Int32 → dk_S → Option (Int32 × dk_S)
  | 0, _, _ => none
  | n + 1, x7, S => if 9 < x7 then kx108 S else (fX9_in (x6 - x7) 0 9 S).bind (fun r9 => dk_lt (fun t10 : dk_S => (fX9_mend_L33 x4 x6 kx82 kx108 n (x7 + 1) t10 : Option (Int32 × dk_S))) (fun k11 => if r9.1 = 0 then k11 r9.2 else dk_lt (dk_si r9.2 95 4 x7) (fun S13 => dk_lt (dk_si S13 95 5 (x6 - x7)) (fun S14 => (fX9_walksWell x4 S14).bind (fun r15 => if r15.1 = 0 then k11 r15.2 else kx82 (x7, r15.2))))))
noncomputable def fX9_mend_L23 (x4 : Int32) (kx82 : (Int32 × Int32 × dk_S) → Option (Int32 × dk_S)) : Nat → Int32 → dk_S → Option (Int32 × dk_S)
  | 0, _, _ => none
  | n + 1, x6, S => if 18 < x6 then some ((-9), S) else fX9_mend_L33 x4 x6 (fun t6 : Int32 × dk_S => kx82 (x6, t6.1, t6.2)) (fun t7 : dk_S => fX9_mend_L23 x4 kx82 n (x6 + 1) t7) dk_FU 0 S
noncomputable def fX9_mend (x1 : Int32) (x2 : Int32) (x3 : Int32) (x4 : Int32) (S : dk_S) : Option (Int32 × dk_S) := (fX9_need 1 x1 x2 x3 x4 S).bind (fun r1 => if 0 ≤ r1.1 then fX9_mend_L23 x4 (fun t3 : Int32 × Int32 × dk_S => (fX9_tells (t3.2.2.1 82 36) (((10 * t3.2.1) + t3.1) - t3.2.1) t3.2.2).bind (fun r4 => some (r4.1, r4.2))) dk_FU 0 r1.2 else some (r1.1, r1.2))
set_option maxRecDepth 100000 in
set_option maxHeartbeats 4000000 in
theorem jX9_mend_L33 {p : Program} {l : Launch} {e : Env} {R : Room} {s : State} {m : MethodId} {args : Array Value} {below : List Frame} {meth : Method} {c : Code} {g : dk_G} (C : dk_C p l e R s m args below meth c g cX9_mend "DuckWalkModel" 8 (some .int)) (hR : R = { frames := 5, cells := 0, slots := 0, locals := 108 }) (x4 : Int32) (x6 : Int32) (kx82 : (Int32 × dk_S) → Option (Int32 × dk_S)) (kx108 : dk_S → Option (Int32 × dk_S))  (hkx82 : ∀ t : Int32 × dk_S, dk_J p l e R s m args below meth c g 8 dk_qi 82 [(0, .ref (g.1 82)), (6, .int x6), (7, .int t.1)] [] t.2 (kx82 t) some) (hkx108 : ∀ t : dk_S, dk_J p l e R s m args below meth c g 8 dk_qi 108 [(0, .ref (g.1 82)), (4, .int x4), (6, .int x6)] [] t (kx108 t) some) : ∀ (n : Nat) (x7 : Int32) (S : dk_S), dk_J p l e R s m args below meth c g 8 dk_qi 33 [(0, .ref (g.1 82)), (4, .int x4), (6, .int x6), (7, .int x7)] [] S (fX9_mend_L33 x4 x6 kx82 kx108 n x7 S) some := by
  subst hR
  intro n
  induction n with
  | zero =>
    intro x7 S
    exact dj_none
  | succ n ih =>
    intro x7 S
    rw [fX9_mend_L33]
    refine dj_iload C 3 rfl dX9_mend_33 ?_
    refine dj_bipush C dX9_mend_35 dc_bipush_9 ?_
    refine dj_icmp_gt (tgt := 108) C dX9_mend_37 (by decide) (fun c8 => ?_) (fun c8 => ?_)
    · refine dj_sub (lv2 := [(0, .ref (g.1 82)), (4, .int x4), (6, .int x6)]) [0, 1, 2] rfl ?_
      exact hkx108 S
    · refine dj_iload C 2 rfl dX9_mend_40 ?_
      refine dj_iload C 3 rfl dX9_mend_42 ?_
      refine dj_isub C dX9_mend_44 ?_
      refine dj_iconst C dX9_mend_45 dc_iconst_0 ?_
      refine dj_bipush C dX9_mend_46 dc_bipush_9 ?_
      refine dj_callSi (As := [.int (x6 - x7), .int 0, .int 9]) C dw_X9_80 (ct_X9_in l g (x6 - x7) 0 9 S) ⟨Nat.le_of_ble_eq_true rfl, Nat.le_of_ble_eq_true rfl⟩ rfl (Nat.le_of_ble_eq_true rfl) rfl dX9_mend_48 (fun r9 => ?_)
      refine dj_join 102 (fun t10 : dk_S => [(0, .ref (g.1 82)), (4, .int x4), (6, .int x6), (7, .int x7)]) (fun t10 : dk_S => []) (fun t10 : dk_S => t10) (fun t10 => ?_) (fun k11 hk11 => ?_)
      · refine dj_iinc (lv2 := [(0, .ref (g.1 82)), (4, .int x4), (6, .int x6), (7, .int (x7 + 1))]) C 3 rfl [1, 2, 3, 0] dX9_mend_102 dc_iconst_1 (by decide) rfl ?_
        refine dj_goto (tgt := 33) C dX9_mend_105 (by decide) ?_
        exact ih (x7 + 1) t10
      · refine dj_if_eq (tgt := 102) C dX9_mend_51 (by decide) (fun c12 => ?_) (fun c12 => ?_)
        · exact hk11 r9.2
        · refine dj_aload_n C 0 rfl dX9_mend_54 ?_
          refine dj_getr (r := 13) (k2 := 95) C dl_X9_48 rfl dz_82 rfl dX9_mend_55 ?_
          refine dj_iconst C dX9_mend_58 dc_iconst_4 ?_
          refine dj_iload C 3 rfl dX9_mend_59 ?_
          refine dj_iastn (n := 6) (j := 4) C dz_95 (by decide) (by decide) (by decide) dX9_mend_61 (fun S13 => ?_)
          refine dj_aload_n C 0 rfl dX9_mend_62 ?_
          refine dj_getr (r := 13) (k2 := 95) C dl_X9_48 rfl dz_82 rfl dX9_mend_63 ?_
          refine dj_iconst C dX9_mend_66 dc_iconst_5 ?_
          refine dj_iload C 2 rfl dX9_mend_67 ?_
          refine dj_iload C 3 rfl dX9_mend_69 ?_
          refine dj_isub C dX9_mend_71 ?_
          refine dj_iastn (n := 6) (j := 5) C dz_95 (by decide) (by decide) (by decide) dX9_mend_72 (fun S14 => ?_)
          refine dj_aload_n C 0 rfl dX9_mend_73 ?_
          refine dj_iload C 1 rfl dX9_mend_74 ?_
          refine dj_callVi (t := 9) (As := [.int x4]) C dw_X9_245 ⟨_, _, rfl⟩ (by decide) dz_82 (ct_X9_walksWell l g x4 S14) ⟨Nat.le_of_ble_eq_true rfl, Nat.le_of_ble_eq_true rfl⟩ rfl (Nat.le_of_ble_eq_true rfl) rfl dX9_mend_76 (fun r15 => ?_)
          refine dj_if_eq (tgt := 102) C dX9_mend_79 (by decide) (fun c16 => ?_) (fun c16 => ?_)
          · exact hk11 r15.2
          · refine dj_sub (lv2 := [(0, .ref (g.1 82)), (6, .int x6), (7, .int x7)]) [0, 2, 3] rfl ?_
            exact hkx82 (x7, r15.2)
set_option maxRecDepth 100000 in
set_option maxHeartbeats 4000000 in
theorem jX9_mend_L23 {p : Program} {l : Launch} {e : Env} {R : Room} {s : State} {m : MethodId} {args : Array Value} {below : List Frame} {meth : Method} {c : Code} {g : dk_G} (C : dk_C p l e R s m args below meth c g cX9_mend "DuckWalkModel" 8 (some .int)) (hR : R = { frames := 5, cells := 0, slots := 0, locals := 108 }) (x4 : Int32) (kx82 : (Int32 × Int32 × dk_S) → Option (Int32 × dk_S))  (hkx82 : ∀ t : Int32 × Int32 × dk_S, dk_J p l e R s m args below meth c g 8 dk_qi 82 [(0, .ref (g.1 82)), (6, .int t.1), (7, .int t.2.1)] [] t.2.2 (kx82 t) some) : ∀ (n : Nat) (x6 : Int32) (S : dk_S), dk_J p l e R s m args below meth c g 8 dk_qi 23 [(0, .ref (g.1 82)), (4, .int x4), (6, .int x6)] [] S (fX9_mend_L23 x4 kx82 n x6 S) some := by
  subst hR
  intro n
  induction n with
  | zero =>
    intro x6 S
    exact dj_none
  | succ n ih =>
    intro x6 S
    rw [fX9_mend_L23]
    refine dj_iload C 2 rfl dX9_mend_23 ?_
    refine dj_bipush C dX9_mend_25 dc_bipush_18 ?_
    refine dj_icmp_gt (tgt := 114) C dX9_mend_27 (by decide) (fun c5 => ?_) (fun c5 => ?_)
    · refine dj_bipush C dX9_mend_114 dc_bipush_m9 ?_
      exact dj_iret C dX9_mend_116
    · refine dj_iconst C dX9_mend_30 dc_iconst_0 ?_
      refine dj_istore (lv2 := [(0, .ref (g.1 82)), (4, .int x4), (6, .int x6), (7, .int 0)]) C [1, 2, 3, 0] dX9_mend_31 (by decide) rfl ?_
      refine jX9_mend_L33 C rfl x4 x6 _ _ (fun t6 => ?_) (fun t7 => ?_) dk_FU 0 S
      · exact hkx82 (x6, t6.1, t6.2)
      · refine dj_iinc (lv2 := [(0, .ref (g.1 82)), (4, .int x4), (6, .int (x6 + 1))]) C 2 rfl [1, 2, 0] dX9_mend_108 dc_iconst_1 (by decide) rfl ?_
        refine dj_goto (tgt := 23) C dX9_mend_111 (by decide) ?_
        exact ih (x6 + 1) t7
set_option maxRecDepth 100000 in
set_option maxHeartbeats 4000000 in
theorem ct_X9_mend (l : Launch) (g : dk_G) (x1 : Int32) (x2 : Int32) (x3 : Int32) (x4 : Int32) (S : dk_S)  : dk_M l g yX9_mend cX9_mend 8 (some .int) 5 108 [.ref (g.1 82), .int x1, .int x2, .int x3, .int x4] S (fX9_mend x1 x2 x3 x4 S) dk_qi := by
  refine dk_enter "DuckWalkModel" (by decide +kernel) rfl (Nat.le_of_ble_eq_true rfl) [(0, .ref (g.1 82)), (1, .int x1), (2, .int x2), (3, .int x3), (4, .int x4)] rfl ?_
  intro p e s m args below meth c C
  unfold fX9_mend
  refine dj_aload_n C 0 rfl dX9_mend_0 ?_
  refine dj_iconst C dX9_mend_1 dc_iconst_1 ?_
  refine dj_iload_n C 1 rfl dX9_mend_2 ?_
  refine dj_iload_n C 2 rfl dX9_mend_3 ?_
  refine dj_iload_n C 3 rfl dX9_mend_4 ?_
  refine dj_iload C 4 rfl dX9_mend_5 ?_
  refine dj_callVi (t := 9) (As := [.int 1, .int x1, .int x2, .int x3, .int x4]) C dw_X9_238 ⟨_, _, rfl⟩ (by decide) dz_82 (ct_X9_need l g 1 x1 x2 x3 x4 S) ⟨Nat.le_of_ble_eq_true rfl, Nat.le_of_ble_eq_true rfl⟩ rfl (Nat.le_of_ble_eq_true rfl) rfl dX9_mend_7 (fun r1 => ?_)
  refine dj_istore (lv2 := [(0, .ref (g.1 82)), (4, .int x4), (5, .int r1.1)]) C [1, 5, 0] dX9_mend_10 (by decide) rfl ?_
  refine dj_iload C 2 rfl dX9_mend_12 ?_
  refine dj_if_ge (tgt := 20) C dX9_mend_14 (by decide) (fun c2 => ?_) (fun c2 => ?_)
  · refine dj_iconst C dX9_mend_20 dc_iconst_0 ?_
    refine dj_istore (lv2 := [(0, .ref (g.1 82)), (4, .int x4), (6, .int 0)]) C [1, 2, 0] dX9_mend_21 (by decide) rfl ?_
    refine jX9_mend_L23 C rfl x4 _ (fun t3 => ?_) dk_FU 0 r1.2
    · refine dj_aload_n C 0 rfl dX9_mend_82 ?_
      refine dj_aload_n C 0 rfl dX9_mend_83 ?_
      refine dj_geti C dl_X9_212 rfl dz_82 dX9_mend_84 ?_
      refine dj_bipush C dX9_mend_87 dc_bipush_10 ?_
      refine dj_iload C 2 rfl dX9_mend_89 ?_
      refine dj_imul C dX9_mend_91 ?_
      refine dj_iload C 1 rfl dX9_mend_92 ?_
      refine dj_iadd C dX9_mend_94 ?_
      refine dj_iload C 2 rfl dX9_mend_95 ?_
      refine dj_isub C dX9_mend_97 ?_
      refine dj_callVi (t := 9) (As := [.int (t3.2.2.1 82 36), .int (((10 * t3.2.1) + t3.1) - t3.2.1)]) C dw_X9_102 ⟨_, _, rfl⟩ (by decide) dz_82 (ct_X9_tells l g (t3.2.2.1 82 36) (((10 * t3.2.1) + t3.1) - t3.2.1) t3.2.2) ⟨Nat.le_of_ble_eq_true rfl, Nat.le_of_ble_eq_true rfl⟩ rfl (Nat.le_of_ble_eq_true rfl) rfl dX9_mend_98 (fun r4 => ?_)
      exact dj_iret C dX9_mend_101
  · refine dj_iload C 2 rfl dX9_mend_17 ?_
    exact dj_iret C dX9_mend_19
noncomputable def fX9_needTocks_L78 (x1 : Int32) (x2 : Int32) (x3 : Int32) (kx123 : (Int32 × dk_S) → Option (Int32 × dk_S)) : Nat → Int32 → Int32 → dk_S → Option (Int32 × dk_S)
  | 0, _, _, _ => none
  | n + 1, x4, x5, S => dk_gd (dk_in x3 6) (if (S.1 84 x3.toNatClampNeg) ≤ x5 then kx123 (x4, S) else dk_lt (fun t18 : Int32 × dk_S => (fX9_needTocks_L78 x1 x2 x3 kx123 n t18.1 (x5 + 1) t18.2 : Option (Int32 × dk_S))) (fun k19 => dk_lt (fun t20 : dk_S => (k19 (0, t20) : Option (Int32 × dk_S))) (fun k21 => if x4 = 0 then k21 S else (fX9_rowAt x3 x5 S).bind (fun r23 => (fX9_in r23.1 0 99 r23.2).bind (fun r24 => if r24.1 = 0 then k21 r24.2 else k19 (1, r24.2))))))
noncomputable def fX9_needTocks (x1 : Int32) (x2 : Int32) (x3 : Int32) (S : dk_S) : Option (Int32 × dk_S) := (fX9_isPlace x1 S).bind (fun r1 => if r1.1 = 0 then some ((-1), r1.2) else (fX9_isPlace x2 r1.2).bind (fun r3 => if r3.1 = 0 then some ((-1), r3.2) else (fX9_isRow x3 r3.2).bind (fun r5 => if r5.1 = 0 then some ((-1), r5.2) else dk_gd (dk_in x1 4) (if (r5.2.1 89 x1.toNatClampNeg) = 0 then (fX9_notes 1 r5.2).bind (fun r8 => some (r8.1, r8.2)) else dk_gd (dk_in x2 4) (if (r5.2.1 91 x2.toNatClampNeg) = 0 then (fX9_notes 1 r5.2).bind (fun r10 => some (r10.1, r10.2)) else dk_gd (dk_in x3 6) (if 0 ≤ (r5.2.1 84 x3.toNatClampNeg) then dk_gd (dk_in x3 6) (if 2 ≤ (r5.2.1 84 x3.toNatClampNeg) then fX9_needTocks_L78 x1 x2 x3 (fun t13 : Int32 × dk_S => if t13.1 = 0 then (fX9_notes 3 t13.2).bind (fun r16 => some (r16.1, r16.2)) else (fX9_looksAt x1 x2 0 t13.2).bind (fun r15 => some (0, r15))) dk_FU 1 0 r5.2 else (fX9_notes 5 r5.2).bind (fun r26 => some (r26.1, r26.2))) else (fX9_notes 1 r5.2).bind (fun r27 => some (r27.1, r27.2))))))))
set_option maxRecDepth 100000 in
set_option maxHeartbeats 4000000 in
theorem jX9_needTocks_L78 {p : Program} {l : Launch} {e : Env} {R : Room} {s : State} {m : MethodId} {args : Array Value} {below : List Frame} {meth : Method} {c : Code} {g : dk_G} (C : dk_C p l e R s m args below meth c g cX9_needTocks "DuckWalkModel" 6 (some .int)) (hR : R = { frames := 2, cells := 0, slots := 0, locals := 42 }) (x1 : Int32) (x2 : Int32) (x3 : Int32) (kx123 : (Int32 × dk_S) → Option (Int32 × dk_S))  (hkx123 : ∀ t : Int32 × dk_S, dk_J p l e R s m args below meth c g 6 dk_qi 123 [(0, .ref (g.1 82)), (1, .int x1), (2, .int x2), (4, .int t.1)] [] t.2 (kx123 t) some) : ∀ (n : Nat) (x4 : Int32) (x5 : Int32) (S : dk_S), dk_J p l e R s m args below meth c g 6 dk_qi 78 [(0, .ref (g.1 82)), (1, .int x1), (2, .int x2), (3, .int x3), (4, .int x4), (5, .int x5)] [] S (fX9_needTocks_L78 x1 x2 x3 kx123 n x4 x5 S) some := by
  subst hR
  intro n
  induction n with
  | zero =>
    intro x4 x5 S
    exact dj_none
  | succ n ih =>
    intro x4 x5 S
    rw [fX9_needTocks_L78]
    refine dj_iload C 5 rfl dX9_needTocks_78 ?_
    refine dj_aload_n C 0 rfl dX9_needTocks_80 ?_
    refine dj_getr (r := 2) (k2 := 84) C dl_X9_13 rfl dz_82 rfl dX9_needTocks_81 ?_
    refine dj_iload_n C 3 rfl dX9_needTocks_84 ?_
    refine dj_iald (n := 6) C dz_84 (by decide) dX9_needTocks_85 ?_
    refine dj_icmp_ge (tgt := 123) C dX9_needTocks_86 (by decide) (fun c17 => ?_) (fun c17 => ?_)
    · refine dj_sub (lv2 := [(0, .ref (g.1 82)), (1, .int x1), (2, .int x2), (4, .int x4)]) [0, 1, 2, 4] rfl ?_
      exact hkx123 (x4, S)
    · refine dj_iload C 4 rfl dX9_needTocks_89 ?_
      refine dj_join 115 (fun t18 : Int32 × dk_S => [(0, .ref (g.1 82)), (1, .int x1), (2, .int x2), (3, .int x3), (5, .int x5)]) (fun t18 : Int32 × dk_S => [.int t18.1]) (fun t18 : Int32 × dk_S => t18.2) (fun t18 => ?_) (fun k19 hk19 => ?_)
      · refine dj_istore (lv2 := [(0, .ref (g.1 82)), (1, .int x1), (2, .int x2), (3, .int x3), (4, .int t18.1), (5, .int x5)]) C [1, 2, 3, 4, 0, 5] dX9_needTocks_115 (by decide) rfl ?_
        refine dj_iinc (lv2 := [(0, .ref (g.1 82)), (1, .int x1), (2, .int x2), (3, .int x3), (4, .int t18.1), (5, .int (x5 + 1))]) C 5 rfl [1, 2, 3, 4, 5, 0] dX9_needTocks_117 dc_iconst_1 (by decide) rfl ?_
        refine dj_goto (tgt := 78) C dX9_needTocks_120 (by decide) ?_
        exact ih t18.1 (x5 + 1) t18.2
      · refine dj_join 114 (fun t20 : dk_S => [(0, .ref (g.1 82)), (1, .int x1), (2, .int x2), (3, .int x3), (5, .int x5)]) (fun t20 : dk_S => []) (fun t20 : dk_S => t20) (fun t20 => ?_) (fun k21 hk21 => ?_)
        · refine dj_iconst C dX9_needTocks_114 dc_iconst_0 ?_
          exact hk19 (0, t20)
        · refine dj_if_eq (tgt := 114) C dX9_needTocks_91 (by decide) (fun c22 => ?_) (fun c22 => ?_)
          · refine dj_sub (lv2 := [(0, .ref (g.1 82)), (1, .int x1), (2, .int x2), (3, .int x3), (5, .int x5)]) [0, 1, 2, 3, 5] rfl ?_
            exact hk21 S
          · refine dj_aload_n C 0 rfl dX9_needTocks_94 ?_
            refine dj_iload_n C 3 rfl dX9_needTocks_95 ?_
            refine dj_iload C 5 rfl dX9_needTocks_96 ?_
            refine dj_callVi (t := 9) (As := [.int x3, .int x5]) C dw_X9_98 ⟨_, _, rfl⟩ (by decide) dz_82 (ct_X9_rowAt l g x3 x5 S) ⟨Nat.le_of_ble_eq_true rfl, Nat.le_of_ble_eq_true rfl⟩ rfl (Nat.le_of_ble_eq_true rfl) rfl dX9_needTocks_98 (fun r23 => ?_)
            refine dj_iconst C dX9_needTocks_101 dc_iconst_0 ?_
            refine dj_bipush C dX9_needTocks_102 dc_bipush_99 ?_
            refine dj_callSi (As := [.int r23.1, .int 0, .int 99]) C dw_X9_80 (ct_X9_in l g r23.1 0 99 r23.2) ⟨Nat.le_of_ble_eq_true rfl, Nat.le_of_ble_eq_true rfl⟩ rfl (Nat.le_of_ble_eq_true rfl) rfl dX9_needTocks_104 (fun r24 => ?_)
            refine dj_if_eq (tgt := 114) C dX9_needTocks_107 (by decide) (fun c25 => ?_) (fun c25 => ?_)
            · refine dj_sub (lv2 := [(0, .ref (g.1 82)), (1, .int x1), (2, .int x2), (3, .int x3), (5, .int x5)]) [0, 1, 2, 3, 5] rfl ?_
              exact hk21 r24.2
            · refine dj_iconst C dX9_needTocks_110 dc_iconst_1 ?_
              refine dj_goto (tgt := 115) C dX9_needTocks_111 (by decide) ?_
              refine dj_sub (lv2 := [(0, .ref (g.1 82)), (1, .int x1), (2, .int x2), (3, .int x3), (5, .int x5)]) [0, 1, 2, 3, 5] rfl ?_
              exact hk19 (1, r24.2)
set_option maxRecDepth 100000 in
set_option maxHeartbeats 4000000 in
theorem ct_X9_needTocks (l : Launch) (g : dk_G) (x1 : Int32) (x2 : Int32) (x3 : Int32) (S : dk_S)  : dk_M l g yX9_needTocks cX9_needTocks 6 (some .int) 2 42 [.ref (g.1 82), .int x1, .int x2, .int x3] S (fX9_needTocks x1 x2 x3 S) dk_qi := by
  refine dk_enter "DuckWalkModel" (by decide +kernel) rfl (Nat.le_of_ble_eq_true rfl) [(0, .ref (g.1 82)), (1, .int x1), (2, .int x2), (3, .int x3)] rfl ?_
  intro p e s m args below meth c C
  unfold fX9_needTocks
  refine dj_iload_n C 1 rfl dX9_needTocks_0 ?_
  refine dj_callSi (As := [.int x1]) C dw_X9_139 (ct_X9_isPlace l g x1 S) ⟨Nat.le_of_ble_eq_true rfl, Nat.le_of_ble_eq_true rfl⟩ rfl (Nat.le_of_ble_eq_true rfl) rfl dX9_needTocks_1 (fun r1 => ?_)
  refine dj_if_eq (tgt := 21) C dX9_needTocks_4 (by decide) (fun c2 => ?_) (fun c2 => ?_)
  · refine dj_iconst C dX9_needTocks_21 dc_iconst_m1 ?_
    exact dj_iret C dX9_needTocks_22
  · refine dj_iload_n C 2 rfl dX9_needTocks_7 ?_
    refine dj_callSi (As := [.int x2]) C dw_X9_139 (ct_X9_isPlace l g x2 r1.2) ⟨Nat.le_of_ble_eq_true rfl, Nat.le_of_ble_eq_true rfl⟩ rfl (Nat.le_of_ble_eq_true rfl) rfl dX9_needTocks_8 (fun r3 => ?_)
    refine dj_if_eq (tgt := 21) C dX9_needTocks_11 (by decide) (fun c4 => ?_) (fun c4 => ?_)
    · refine dj_iconst C dX9_needTocks_21 dc_iconst_m1 ?_
      exact dj_iret C dX9_needTocks_22
    · refine dj_iload_n C 3 rfl dX9_needTocks_14 ?_
      refine dj_callSi (As := [.int x3]) C dw_X9_90 (ct_X9_isRow l g x3 r3.2) ⟨Nat.le_of_ble_eq_true rfl, Nat.le_of_ble_eq_true rfl⟩ rfl (Nat.le_of_ble_eq_true rfl) rfl dX9_needTocks_15 (fun r5 => ?_)
      refine dj_if_ne (tgt := 23) C dX9_needTocks_18 (by decide) (fun c6 => ?_) (fun c6 => ?_)
      · refine dj_aload_n C 0 rfl dX9_needTocks_23 ?_
        refine dj_getr (r := 7) (k2 := 89) C dl_X9_29 rfl dz_82 rfl dX9_needTocks_24 ?_
        refine dj_iload_n C 1 rfl dX9_needTocks_27 ?_
        refine dj_zald (n := 4) C dz_89 (by decide) dX9_needTocks_28 ?_
        refine dj_if_eq (tgt := 50) C dX9_needTocks_29 (by decide) (fun c7 => ?_) (fun c7 => ?_)
        · refine dj_aload_n C 0 rfl dX9_needTocks_50 ?_
          refine dj_iconst C dX9_needTocks_51 dc_iconst_1 ?_
          refine dj_callVi (t := 9) (As := [.int 1]) C dw_X9_94 ⟨_, _, rfl⟩ (by decide) dz_82 (ct_X9_notes l g 1 r5.2) ⟨Nat.le_of_ble_eq_true rfl, Nat.le_of_ble_eq_true rfl⟩ rfl (Nat.le_of_ble_eq_true rfl) rfl dX9_needTocks_52 (fun r8 => ?_)
          exact dj_iret C dX9_needTocks_55
        · refine dj_aload_n C 0 rfl dX9_needTocks_32 ?_
          refine dj_getr (r := 9) (k2 := 91) C dl_X9_36 rfl dz_82 rfl dX9_needTocks_33 ?_
          refine dj_iload_n C 2 rfl dX9_needTocks_36 ?_
          refine dj_zald (n := 4) C dz_91 (by decide) dX9_needTocks_37 ?_
          refine dj_if_eq (tgt := 50) C dX9_needTocks_38 (by decide) (fun c9 => ?_) (fun c9 => ?_)
          · refine dj_aload_n C 0 rfl dX9_needTocks_50 ?_
            refine dj_iconst C dX9_needTocks_51 dc_iconst_1 ?_
            refine dj_callVi (t := 9) (As := [.int 1]) C dw_X9_94 ⟨_, _, rfl⟩ (by decide) dz_82 (ct_X9_notes l g 1 r5.2) ⟨Nat.le_of_ble_eq_true rfl, Nat.le_of_ble_eq_true rfl⟩ rfl (Nat.le_of_ble_eq_true rfl) rfl dX9_needTocks_52 (fun r10 => ?_)
            exact dj_iret C dX9_needTocks_55
          · refine dj_aload_n C 0 rfl dX9_needTocks_41 ?_
            refine dj_getr (r := 2) (k2 := 84) C dl_X9_13 rfl dz_82 rfl dX9_needTocks_42 ?_
            refine dj_iload_n C 3 rfl dX9_needTocks_45 ?_
            refine dj_iald (n := 6) C dz_84 (by decide) dX9_needTocks_46 ?_
            refine dj_if_ge (tgt := 56) C dX9_needTocks_47 (by decide) (fun c11 => ?_) (fun c11 => ?_)
            · refine dj_aload_n C 0 rfl dX9_needTocks_56 ?_
              refine dj_getr (r := 2) (k2 := 84) C dl_X9_13 rfl dz_82 rfl dX9_needTocks_57 ?_
              refine dj_iload_n C 3 rfl dX9_needTocks_60 ?_
              refine dj_iald (n := 6) C dz_84 (by decide) dX9_needTocks_61 ?_
              refine dj_iconst C dX9_needTocks_62 dc_iconst_2 ?_
              refine dj_icmp_ge (tgt := 72) C dX9_needTocks_63 (by decide) (fun c12 => ?_) (fun c12 => ?_)
              · refine dj_iconst C dX9_needTocks_72 dc_iconst_1 ?_
                refine dj_istore (lv2 := [(0, .ref (g.1 82)), (1, .int x1), (2, .int x2), (3, .int x3), (4, .int 1)]) C [1, 2, 3, 4, 0] dX9_needTocks_73 (by decide) rfl ?_
                refine dj_iconst C dX9_needTocks_75 dc_iconst_0 ?_
                refine dj_istore (lv2 := [(0, .ref (g.1 82)), (1, .int x1), (2, .int x2), (3, .int x3), (4, .int 1), (5, .int 0)]) C [1, 2, 3, 4, 5, 0] dX9_needTocks_76 (by decide) rfl ?_
                refine jX9_needTocks_L78 C rfl x1 x2 x3 _ (fun t13 => ?_) dk_FU 1 0 r5.2
                · refine dj_iload C 3 rfl dX9_needTocks_123 ?_
                  refine dj_if_ne (tgt := 134) C dX9_needTocks_125 (by decide) (fun c14 => ?_) (fun c14 => ?_)
                  · refine dj_aload_n C 0 rfl dX9_needTocks_134 ?_
                    refine dj_iload_n C 1 rfl dX9_needTocks_135 ?_
                    refine dj_iload_n C 2 rfl dX9_needTocks_136 ?_
                    refine dj_iconst C dX9_needTocks_137 dc_iconst_0 ?_
                    refine dj_callVv (t := 9) (As := [.int x1, .int x2, .int 0]) C dw_X9_234 ⟨_, _, rfl⟩ (by decide) dz_82 (ct_X9_looksAt l g x1 x2 0 t13.2) ⟨Nat.le_of_ble_eq_true rfl, Nat.le_of_ble_eq_true rfl⟩ rfl (Nat.le_of_ble_eq_true rfl) rfl dX9_needTocks_138 (fun r15 => ?_)
                    refine dj_iconst C dX9_needTocks_141 dc_iconst_0 ?_
                    exact dj_iret C dX9_needTocks_142
                  · refine dj_aload_n C 0 rfl dX9_needTocks_128 ?_
                    refine dj_iconst C dX9_needTocks_129 dc_iconst_3 ?_
                    refine dj_callVi (t := 9) (As := [.int 3]) C dw_X9_94 ⟨_, _, rfl⟩ (by decide) dz_82 (ct_X9_notes l g 3 t13.2) ⟨Nat.le_of_ble_eq_true rfl, Nat.le_of_ble_eq_true rfl⟩ rfl (Nat.le_of_ble_eq_true rfl) rfl dX9_needTocks_130 (fun r16 => ?_)
                    exact dj_iret C dX9_needTocks_133
              · refine dj_aload_n C 0 rfl dX9_needTocks_66 ?_
                refine dj_iconst C dX9_needTocks_67 dc_iconst_5 ?_
                refine dj_callVi (t := 9) (As := [.int 5]) C dw_X9_94 ⟨_, _, rfl⟩ (by decide) dz_82 (ct_X9_notes l g 5 r5.2) ⟨Nat.le_of_ble_eq_true rfl, Nat.le_of_ble_eq_true rfl⟩ rfl (Nat.le_of_ble_eq_true rfl) rfl dX9_needTocks_68 (fun r26 => ?_)
                exact dj_iret C dX9_needTocks_71
            · refine dj_aload_n C 0 rfl dX9_needTocks_50 ?_
              refine dj_iconst C dX9_needTocks_51 dc_iconst_1 ?_
              refine dj_callVi (t := 9) (As := [.int 1]) C dw_X9_94 ⟨_, _, rfl⟩ (by decide) dz_82 (ct_X9_notes l g 1 r5.2) ⟨Nat.le_of_ble_eq_true rfl, Nat.le_of_ble_eq_true rfl⟩ rfl (Nat.le_of_ble_eq_true rfl) rfl dX9_needTocks_52 (fun r27 => ?_)
              exact dj_iret C dX9_needTocks_55
      · refine dj_iconst C dX9_needTocks_21 dc_iconst_m1 ?_
        exact dj_iret C dX9_needTocks_22
noncomputable def fX9_offTocks_L36 (x1 : Int32) : Nat → Int32 → Int32 → dk_S → Option (Int32 × dk_S)
  | 0, _, _, _ => none
  | n + 1, x4, x5, S => dk_gd (dk_in x1 6) (if (S.1 84 x1.toNatClampNeg) ≤ x5 then some (x4, S) else dk_lt (fun t7 : dk_S => (dk_lt (if (t7.1 82 27) = 0 then t7.1 82 25 else 0) (fun y9 : Int32 => (fX9_rowAt x1 x5 t7).bind (fun r10 => dk_lt (fun t11 : Int32 × dk_S => (dk_lt (x4 + t11.1) (fun y13 : Int32 => fX9_offTocks_L36 x1 n y13 (x5 + 1) t11.2) : Option (Int32 × dk_S))) (fun k12 => if r10.1 ≤ y9 then (fX9_rowAt x1 x5 r10.2).bind (fun r15 => k12 (y9 - r15.1, r15.2)) else (fX9_rowAt x1 x5 r10.2).bind (fun r16 => k12 (r16.1 - y9, r16.2))))) : Option (Int32 × dk_S))) (fun k8 => if (S.1 82 27) = 0 then (fX9_steps (x5 - 1) S).bind (fun r19 => k8 r19) else k8 S))
noncomputable def fX9_offTocks (x1 : Int32) (x2 : Int32) (x3 : Int32) (S : dk_S) : Option (Int32 × dk_S) := dk_lt (dk_si S 82 21 x2) (fun S1 => dk_lt (dk_si S1 95 4 x3) (fun S2 => dk_lt (dk_si S2 95 5 0) (fun S3 => (fX9_rowAt x1 0 S3).bind (fun r4 => (fX9_starts r4.1 0 r4.2).bind (fun r5 => fX9_offTocks_L36 x1 dk_FU 0 1 r5)))))
set_option maxRecDepth 100000 in
set_option maxHeartbeats 4000000 in
theorem jX9_offTocks_L36 {p : Program} {l : Launch} {e : Env} {R : Room} {s : State} {m : MethodId} {args : Array Value} {below : List Frame} {meth : Method} {c : Code} {g : dk_G} (C : dk_C p l e R s m args below meth c g cX9_offTocks "DuckWalkModel" 7 (some .int)) (hR : R = { frames := 3, cells := 0, slots := 0, locals := 64 }) (x1 : Int32)   : ∀ (n : Nat) (x4 : Int32) (x5 : Int32) (S : dk_S), dk_J p l e R s m args below meth c g 7 dk_qi 36 [(0, .ref (g.1 82)), (1, .int x1), (4, .int x4), (5, .int x5)] [] S (fX9_offTocks_L36 x1 n x4 x5 S) some := by
  subst hR
  intro n
  induction n with
  | zero =>
    intro x4 x5 S
    exact dj_none
  | succ n ih =>
    intro x4 x5 S
    rw [fX9_offTocks_L36]
    refine dj_iload C 3 rfl dX9_offTocks_36 ?_
    refine dj_aload_n C 0 rfl dX9_offTocks_38 ?_
    refine dj_getr (r := 2) (k2 := 84) C dl_X9_13 rfl dz_82 rfl dX9_offTocks_39 ?_
    refine dj_iload_n C 1 rfl dX9_offTocks_42 ?_
    refine dj_iald (n := 6) C dz_84 (by decide) dX9_offTocks_43 ?_
    refine dj_icmp_ge (tgt := 125) C dX9_offTocks_44 (by decide) (fun c6 => ?_) (fun c6 => ?_)
    · refine dj_iload C 2 rfl dX9_offTocks_125 ?_
      exact dj_iret C dX9_offTocks_127
    · refine dj_aload_n C 0 rfl dX9_offTocks_47 ?_
      refine dj_geti C dl_X9_160 rfl dz_82 dX9_offTocks_48 ?_
      refine dj_join 62 (fun t7 : dk_S => [(0, .ref (g.1 82)), (1, .int x1), (4, .int x4), (5, .int x5)]) (fun t7 : dk_S => []) (fun t7 : dk_S => t7) (fun t7 => ?_) (fun k8 hk8 => ?_)
      · refine dj_aload_n C 0 rfl dX9_offTocks_62 ?_
        refine dj_geti C dl_X9_160 rfl dz_82 dX9_offTocks_63 ?_
        refine dj_dia 77 [] (fun y9 => ?_) (fun hd9 => ?_)
        · refine dj_istore (lv2 := [(0, .ref (g.1 82)), (1, .int x1), (4, .int x4), (5, .int x5), (6, .int y9)]) C [1, 2, 3, 4, 0] dX9_offTocks_77 (by decide) rfl ?_
          refine dj_iload C 2 rfl dX9_offTocks_79 ?_
          refine dj_iload C 4 rfl dX9_offTocks_81 ?_
          refine dj_aload_n C 0 rfl dX9_offTocks_83 ?_
          refine dj_iload_n C 1 rfl dX9_offTocks_84 ?_
          refine dj_iload C 3 rfl dX9_offTocks_85 ?_
          refine dj_callVi (t := 9) (As := [.int x1, .int x5]) C dw_X9_98 ⟨_, _, rfl⟩ (by decide) dz_82 (ct_X9_rowAt l g x1 x5 t7) ⟨Nat.le_of_ble_eq_true rfl, Nat.le_of_ble_eq_true rfl⟩ rfl (Nat.le_of_ble_eq_true rfl) rfl dX9_offTocks_87 (fun r10 => ?_)
          refine dj_join 116 (fun t11 : Int32 × dk_S => [(0, .ref (g.1 82)), (1, .int x1), (5, .int x5)]) (fun t11 : Int32 × dk_S => [.int t11.1, .int x4]) (fun t11 : Int32 × dk_S => t11.2) (fun t11 => ?_) (fun k12 hk12 => ?_)
          · refine dj_iadd C dX9_offTocks_116 ?_
            refine dj_lti (fun y13 => ?_)
            refine dj_istore (lv2 := [(0, .ref (g.1 82)), (1, .int x1), (4, .int y13), (5, .int x5)]) C [1, 2, 0, 3] dX9_offTocks_117 (by decide) rfl ?_
            refine dj_iinc (lv2 := [(0, .ref (g.1 82)), (1, .int x1), (4, .int y13), (5, .int (x5 + 1))]) C 3 rfl [1, 2, 3, 0] dX9_offTocks_119 dc_iconst_1 (by decide) rfl ?_
            refine dj_goto (tgt := 36) C dX9_offTocks_122 (by decide) ?_
            exact ih y13 (x5 + 1) t11.2
          · refine dj_icmp_ge (tgt := 106) C dX9_offTocks_90 (by decide) (fun c14 => ?_) (fun c14 => ?_)
            · refine dj_iload C 4 rfl dX9_offTocks_106 ?_
              refine dj_aload_n C 0 rfl dX9_offTocks_108 ?_
              refine dj_iload_n C 1 rfl dX9_offTocks_109 ?_
              refine dj_iload C 3 rfl dX9_offTocks_110 ?_
              refine dj_callVi (t := 9) (As := [.int x1, .int x5]) C dw_X9_98 ⟨_, _, rfl⟩ (by decide) dz_82 (ct_X9_rowAt l g x1 x5 r10.2) ⟨Nat.le_of_ble_eq_true rfl, Nat.le_of_ble_eq_true rfl⟩ rfl (Nat.le_of_ble_eq_true rfl) rfl dX9_offTocks_112 (fun r15 => ?_)
              refine dj_isub C dX9_offTocks_115 ?_
              refine dj_sub (lv2 := [(0, .ref (g.1 82)), (1, .int x1), (5, .int x5)]) [0, 1, 3] rfl ?_
              exact hk12 (y9 - r15.1, r15.2)
            · refine dj_aload_n C 0 rfl dX9_offTocks_93 ?_
              refine dj_iload_n C 1 rfl dX9_offTocks_94 ?_
              refine dj_iload C 3 rfl dX9_offTocks_95 ?_
              refine dj_callVi (t := 9) (As := [.int x1, .int x5]) C dw_X9_98 ⟨_, _, rfl⟩ (by decide) dz_82 (ct_X9_rowAt l g x1 x5 r10.2) ⟨Nat.le_of_ble_eq_true rfl, Nat.le_of_ble_eq_true rfl⟩ rfl (Nat.le_of_ble_eq_true rfl) rfl dX9_offTocks_97 (fun r16 => ?_)
              refine dj_iload C 4 rfl dX9_offTocks_100 ?_
              refine dj_isub C dX9_offTocks_102 ?_
              refine dj_goto (tgt := 116) C dX9_offTocks_103 (by decide) ?_
              refine dj_sub (lv2 := [(0, .ref (g.1 82)), (1, .int x1), (5, .int x5)]) [0, 1, 3] rfl ?_
              exact hk12 (r16.1 - y9, r16.2)
        · refine dj_ltite ?_
          refine dj_if_ne (tgt := 76) C dX9_offTocks_66 (by decide) (fun c17 => ?_) (fun c17 => ?_)
          · refine dj_iconst C dX9_offTocks_76 dc_iconst_0 ?_
            exact hd9 _
          · refine dj_aload_n C 0 rfl dX9_offTocks_69 ?_
            refine dj_geti C dl_X9_154 rfl dz_82 dX9_offTocks_70 ?_
            refine dj_goto (tgt := 77) C dX9_offTocks_73 (by decide) ?_
            exact hd9 _
      · refine dj_if_ne (tgt := 62) C dX9_offTocks_51 (by decide) (fun c18 => ?_) (fun c18 => ?_)
        · exact hk8 S
        · refine dj_aload_n C 0 rfl dX9_offTocks_54 ?_
          refine dj_iload C 3 rfl dX9_offTocks_55 ?_
          refine dj_iconst C dX9_offTocks_57 dc_iconst_1 ?_
          refine dj_isub C dX9_offTocks_58 ?_
          refine dj_callVv (t := 9) (As := [.int (x5 - 1)]) C dw_X9_206 ⟨_, _, rfl⟩ (by decide) dz_82 (ct_X9_steps l g (x5 - 1) S) ⟨Nat.le_of_ble_eq_true rfl, Nat.le_of_ble_eq_true rfl⟩ rfl (Nat.le_of_ble_eq_true rfl) rfl dX9_offTocks_59 (fun r19 => ?_)
          exact hk8 r19
set_option maxRecDepth 100000 in
set_option maxHeartbeats 4000000 in
theorem ct_X9_offTocks (l : Launch) (g : dk_G) (x1 : Int32) (x2 : Int32) (x3 : Int32) (S : dk_S)  : dk_M l g yX9_offTocks cX9_offTocks 7 (some .int) 3 64 [.ref (g.1 82), .int x1, .int x2, .int x3] S (fX9_offTocks x1 x2 x3 S) dk_qi := by
  refine dk_enter "DuckWalkModel" (by decide +kernel) rfl (Nat.le_of_ble_eq_true rfl) [(0, .ref (g.1 82)), (1, .int x1), (2, .int x2), (3, .int x3)] rfl ?_
  intro p e s m args below meth c C
  unfold fX9_offTocks
  refine dj_aload_n C 0 rfl dX9_offTocks_0 ?_
  refine dj_iload_n C 2 rfl dX9_offTocks_1 ?_
  refine dj_puti C dl_X9_148 dp_9_21 rfl dz_82 dX9_offTocks_2 (fun S1 => ?_)
  refine dj_aload_n C 0 rfl dX9_offTocks_5 ?_
  refine dj_getr (r := 13) (k2 := 95) C dl_X9_48 rfl dz_82 rfl dX9_offTocks_6 ?_
  refine dj_iconst C dX9_offTocks_9 dc_iconst_4 ?_
  refine dj_iload_n C 3 rfl dX9_offTocks_10 ?_
  refine dj_iastn (n := 6) (j := 4) C dz_95 (by decide) (by decide) (by decide) dX9_offTocks_11 (fun S2 => ?_)
  refine dj_aload_n C 0 rfl dX9_offTocks_12 ?_
  refine dj_getr (r := 13) (k2 := 95) C dl_X9_48 rfl dz_82 rfl dX9_offTocks_13 ?_
  refine dj_iconst C dX9_offTocks_16 dc_iconst_5 ?_
  refine dj_iconst C dX9_offTocks_17 dc_iconst_0 ?_
  refine dj_iastn (n := 6) (j := 5) C dz_95 (by decide) (by decide) (by decide) dX9_offTocks_18 (fun S3 => ?_)
  refine dj_aload_n C 0 rfl dX9_offTocks_19 ?_
  refine dj_aload_n C 0 rfl dX9_offTocks_20 ?_
  refine dj_iload_n C 1 rfl dX9_offTocks_21 ?_
  refine dj_iconst C dX9_offTocks_22 dc_iconst_0 ?_
  refine dj_callVi (t := 9) (As := [.int x1, .int 0]) C dw_X9_98 ⟨_, _, rfl⟩ (by decide) dz_82 (ct_X9_rowAt l g x1 0 S3) ⟨Nat.le_of_ble_eq_true rfl, Nat.le_of_ble_eq_true rfl⟩ rfl (Nat.le_of_ble_eq_true rfl) rfl dX9_offTocks_23 (fun r4 => ?_)
  refine dj_iconst C dX9_offTocks_26 dc_iconst_0 ?_
  refine dj_callVv (t := 9) (As := [.int r4.1, .int 0]) C dw_X9_183 ⟨_, _, rfl⟩ (by decide) dz_82 (ct_X9_starts l g r4.1 0 r4.2) ⟨Nat.le_of_ble_eq_true rfl, Nat.le_of_ble_eq_true rfl⟩ rfl (Nat.le_of_ble_eq_true rfl) rfl dX9_offTocks_27 (fun r5 => ?_)
  refine dj_iconst C dX9_offTocks_30 dc_iconst_0 ?_
  refine dj_istore (lv2 := [(0, .ref (g.1 82)), (1, .int x1), (4, .int 0)]) C [1, 2, 0] dX9_offTocks_31 (by decide) rfl ?_
  refine dj_iconst C dX9_offTocks_33 dc_iconst_1 ?_
  refine dj_istore (lv2 := [(0, .ref (g.1 82)), (1, .int x1), (4, .int 0), (5, .int 1)]) C [1, 2, 3, 0] dX9_offTocks_34 (by decide) rfl ?_
  refine jX9_offTocks_L36 C rfl x1 dk_FU 0 1 r5
