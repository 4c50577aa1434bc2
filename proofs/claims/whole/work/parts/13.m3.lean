noncomputable def fX8_about (x1 : Int32) (x2 : Int32) (S : dk_S) : Option (Int32 × dk_S) := (fX8_noWalker x1 S).bind (fun r1 => if r1.1 = 0 then (fX8_isOutside x2 0 6 r1.2).bind (fun r3 => if r3.1 = 0 then dk_gd (dk_in x1 4) (if (r3.2.1 (51 + 2 * x1.toNatClampNeg) 2) = 0 then (fX8_found 1 r3.2).bind (fun r10 => some (r10.1, r10.2)) else dk_gd (dk_in x1 4) ((fX1_value (51 + 2 * x1.toNatClampNeg) x2 r3.2).bind (fun r8 => (fX8_tell r8.1 r8.2).bind (fun r9 => some (r9.1, r9.2))))) else some ((-1), r3.2)) else some ((-1), r1.2))
set_option maxRecDepth 100000 in
set_option maxHeartbeats 4000000 in
theorem ct_X8_about (l : Launch) (g : dk_G) (x1 : Int32) (x2 : Int32) (S : dk_S)  : dk_M l g yX8_about cX8_about 3 (some .int) 2 43 [.ref (g.1 0), .int x1, .int x2] S (fX8_about x1 x2 S) dk_qi := by
  refine dk_enter "DuckWalk" (by decide +kernel) rfl (Nat.le_of_ble_eq_true rfl) [(0, .ref (g.1 0)), (1, .int x1), (2, .int x2)] rfl ?_
  intro p e s m args below meth c C
  unfold fX8_about
  refine dj_iload_n C 1 rfl dX8_about_0 ?_
  refine dj_callSi (As := [.int x1]) C dw_X8_94 (ct_X8_noWalker l g x1 S) ⟨Nat.le_of_ble_eq_true rfl, Nat.le_of_ble_eq_true rfl⟩ rfl (Nat.le_of_ble_eq_true rfl) rfl dX8_about_1 (fun r1 => ?_)
  refine dj_if_ne (tgt := 17) C dX8_about_4 (by decide) (fun c2 => ?_) (fun c2 => ?_)
  · refine dj_iconst C dX8_about_17 dc_iconst_m1 ?_
    exact dj_iret C dX8_about_18
  · refine dj_iload_n C 2 rfl dX8_about_7 ?_
    refine dj_iconst C dX8_about_8 dc_iconst_0 ?_
    refine dj_bipush C dX8_about_9 dc_bipush_6 ?_
    refine dj_callSi (As := [.int x2, .int 0, .int 6]) C dw_X8_90 (ct_X8_isOutside l g x2 0 6 r1.2) ⟨Nat.le_of_ble_eq_true rfl, Nat.le_of_ble_eq_true rfl⟩ rfl (Nat.le_of_ble_eq_true rfl) rfl dX8_about_11 (fun r3 => ?_)
    refine dj_if_eq (tgt := 19) C dX8_about_14 (by decide) (fun c4 => ?_) (fun c4 => ?_)
    · refine dj_aload_n C 0 rfl dX8_about_19 ?_
      refine dj_getr (r := 3) (k2 := 3) C dl_X8_23 rfl dz_0 rfl dX8_about_20 ?_
      refine dj_iload_n C 1 rfl dX8_about_23 ?_
      refine dj_aald C dr_52 dz_3 dX8_about_24 (fun hi5 => ?_)
      refine dj_geti C dl_X8_110 rfl (dt_52 hi5) dX8_about_25 ?_
      refine dj_if_ne (tgt := 37) C dX8_about_28 (by decide) (fun c6 => ?_) (fun c6 => ?_)
      · refine dj_aload_n C 0 rfl dX8_about_37 ?_
        refine dj_aload_n C 0 rfl dX8_about_38 ?_
        refine dj_getr (r := 3) (k2 := 3) C dl_X8_23 rfl dz_0 rfl dX8_about_39 ?_
        refine dj_iload_n C 1 rfl dX8_about_42 ?_
        refine dj_aald C dr_52 dz_3 dX8_about_43 (fun hi7 => ?_)
        refine dj_iload_n C 2 rfl dX8_about_44 ?_
        refine dj_callVi (t := 1) (As := [.int x2]) C dw_X8_220 ⟨_, _, rfl⟩ (by decide) (dt_52 hi7) (ct_X1_value l g (51 + 2 * x1.toNatClampNeg) x2 r3.2 (dt_52 hi7)) ⟨Nat.le_of_ble_eq_true rfl, Nat.le_of_ble_eq_true rfl⟩ rfl (Nat.le_of_ble_eq_true rfl) rfl dX8_about_45 (fun r8 => ?_)
        refine dj_callVi (t := 8) (As := [.int r8.1]) C dw_X8_167 ⟨_, _, rfl⟩ (by decide) dz_0 (ct_X8_tell l g r8.1 r8.2) ⟨Nat.le_of_ble_eq_true rfl, Nat.le_of_ble_eq_true rfl⟩ rfl (Nat.le_of_ble_eq_true rfl) rfl dX8_about_48 (fun r9 => ?_)
        exact dj_iret C dX8_about_51
      · refine dj_aload_n C 0 rfl dX8_about_31 ?_
        refine dj_iconst C dX8_about_32 dc_iconst_1 ?_
        refine dj_callVi (t := 8) (As := [.int 1]) C dw_X8_150 ⟨_, _, rfl⟩ (by decide) dz_0 (ct_X8_found l g 1 r3.2) ⟨Nat.le_of_ble_eq_true rfl, Nat.le_of_ble_eq_true rfl⟩ rfl (Nat.le_of_ble_eq_true rfl) rfl dX8_about_33 (fun r10 => ?_)
        exact dj_iret C dX8_about_36
    · refine dj_iconst C dX8_about_17 dc_iconst_m1 ?_
      exact dj_iret C dX8_about_18
noncomputable def fX8_rub (x1 : Int32) (x2 : Int32) (S : dk_S) : Option (Int32 × dk_S) := (fX8_noBoard x1 S).bind (fun r1 => if r1.1 = 0 then (fX8_isOutside x2 0 99 r1.2).bind (fun r3 => if r3.1 = 0 then dk_gd (dk_in x1 4) (if (r3.2.1 (59 + 2 * x1.toNatClampNeg) 2) = 0 then (fX8_found 1 r3.2).bind (fun r11 => some (r11.1, r11.2)) else dk_gd (dk_in x1 4) ((fX3_bumpsOf (59 + 2 * x1.toNatClampNeg) x2 r3.2).bind (fun r8 => (fX8_tell r8.1 r8.2).bind (fun r9 => dk_gd (dk_in x1 4) (some (r9.2.1 (59 + 2 * x1.toNatClampNeg) 1, r9.2)))))) else some ((-1), r3.2)) else some ((-1), r1.2))
set_option maxRecDepth 100000 in
set_option maxHeartbeats 4000000 in
theorem ct_X8_rub (l : Launch) (g : dk_G) (x1 : Int32) (x2 : Int32) (S : dk_S)  : dk_M l g yX8_rub cX8_rub 3 (some .int) 2 43 [.ref (g.1 0), .int x1, .int x2] S (fX8_rub x1 x2 S) dk_qi := by
  refine dk_enter "DuckWalk" (by decide +kernel) rfl (Nat.le_of_ble_eq_true rfl) [(0, .ref (g.1 0)), (1, .int x1), (2, .int x2)] rfl ?_
  intro p e s m args below meth c C
  unfold fX8_rub
  refine dj_iload_n C 1 rfl dX8_rub_0 ?_
  refine dj_callSi (As := [.int x1]) C dw_X8_98 (ct_X8_noBoard l g x1 S) ⟨Nat.le_of_ble_eq_true rfl, Nat.le_of_ble_eq_true rfl⟩ rfl (Nat.le_of_ble_eq_true rfl) rfl dX8_rub_1 (fun r1 => ?_)
  refine dj_if_ne (tgt := 17) C dX8_rub_4 (by decide) (fun c2 => ?_) (fun c2 => ?_)
  · refine dj_iconst C dX8_rub_17 dc_iconst_m1 ?_
    exact dj_iret C dX8_rub_18
  · refine dj_iload_n C 2 rfl dX8_rub_7 ?_
    refine dj_iconst C dX8_rub_8 dc_iconst_0 ?_
    refine dj_bipush C dX8_rub_9 dc_bipush_99 ?_
    refine dj_callSi (As := [.int x2, .int 0, .int 99]) C dw_X8_90 (ct_X8_isOutside l g x2 0 99 r1.2) ⟨Nat.le_of_ble_eq_true rfl, Nat.le_of_ble_eq_true rfl⟩ rfl (Nat.le_of_ble_eq_true rfl) rfl dX8_rub_11 (fun r3 => ?_)
    refine dj_if_eq (tgt := 19) C dX8_rub_14 (by decide) (fun c4 => ?_) (fun c4 => ?_)
    · refine dj_aload_n C 0 rfl dX8_rub_19 ?_
      refine dj_getr (r := 4) (k2 := 4) C dl_X8_29 rfl dz_0 rfl dX8_rub_20 ?_
      refine dj_iload_n C 1 rfl dX8_rub_23 ?_
      refine dj_aald C dr_53 dz_4 dX8_rub_24 (fun hi5 => ?_)
      refine dj_geti C dl_X8_114 rfl (dt_53 hi5) dX8_rub_25 ?_
      refine dj_if_ne (tgt := 37) C dX8_rub_28 (by decide) (fun c6 => ?_) (fun c6 => ?_)
      · refine dj_aload_n C 0 rfl dX8_rub_37 ?_
        refine dj_aload_n C 0 rfl dX8_rub_38 ?_
        refine dj_getr (r := 4) (k2 := 4) C dl_X8_29 rfl dz_0 rfl dX8_rub_39 ?_
        refine dj_iload_n C 1 rfl dX8_rub_42 ?_
        refine dj_aald C dr_53 dz_4 dX8_rub_43 (fun hi7 => ?_)
        refine dj_iload_n C 2 rfl dX8_rub_44 ?_
        refine dj_callVi (t := 3) (As := [.int x2]) C dw_X8_223 ⟨_, _, rfl⟩ (by decide) (dt_53 hi7) (ct_X3_bumpsOf l g (59 + 2 * x1.toNatClampNeg) x2 r3.2 (dt_53 hi7)) ⟨Nat.le_of_ble_eq_true rfl, Nat.le_of_ble_eq_true rfl⟩ rfl (Nat.le_of_ble_eq_true rfl) rfl dX8_rub_45 (fun r8 => ?_)
        refine dj_callVi (t := 8) (As := [.int r8.1]) C dw_X8_167 ⟨_, _, rfl⟩ (by decide) dz_0 (ct_X8_tell l g r8.1 r8.2) ⟨Nat.le_of_ble_eq_true rfl, Nat.le_of_ble_eq_true rfl⟩ rfl (Nat.le_of_ble_eq_true rfl) rfl dX8_rub_48 (fun r9 => ?_)
        refine dj_pop C dX8_rub_51 rfl ?_
        refine dj_aload_n C 0 rfl dX8_rub_52 ?_
        refine dj_getr (r := 4) (k2 := 4) C dl_X8_29 rfl dz_0 rfl dX8_rub_53 ?_
        refine dj_iload_n C 1 rfl dX8_rub_56 ?_
        refine dj_aald C dr_53 dz_4 dX8_rub_57 (fun hi10 => ?_)
        refine dj_geti C dl_X8_131 rfl (dt_53 hi10) dX8_rub_58 ?_
        exact dj_iret C dX8_rub_61
      · refine dj_aload_n C 0 rfl dX8_rub_31 ?_
        refine dj_iconst C dX8_rub_32 dc_iconst_1 ?_
        refine dj_callVi (t := 8) (As := [.int 1]) C dw_X8_150 ⟨_, _, rfl⟩ (by decide) dz_0 (ct_X8_found l g 1 r3.2) ⟨Nat.le_of_ble_eq_true rfl, Nat.le_of_ble_eq_true rfl⟩ rfl (Nat.le_of_ble_eq_true rfl) rfl dX8_rub_33 (fun r11 => ?_)
        exact dj_iret C dX8_rub_36
    · refine dj_iconst C dX8_rub_17 dc_iconst_m1 ?_
      exact dj_iret C dX8_rub_18
noncomputable def fX8_wax (x1 : Int32) (x2 : Int32) (x3 : Int32) (S : dk_S) : Option (Int32 × dk_S) := (fX8_noWalker x1 S).bind (fun r1 => if r1.1 = 0 then (fX8_isOutside x2 0 1 r1.2).bind (fun r3 => if r3.1 = 0 then (fX8_isOutside x3 0 9 r3.2).bind (fun r5 => if r5.1 = 0 then dk_gd (dk_in x1 4) (if (r5.2.1 (51 + 2 * x1.toNatClampNeg) 2) = 0 then (fX8_found 1 r5.2).bind (fun r13 => some (r13.1, r13.2)) else dk_gd (dk_in x1 4) (dk_gd (dk_in (4 + x2) 6) (dk_lt (r5.2.1 ((51 + 2 * x1.toNatClampNeg) + 1) (4 + x2).toNatClampNeg) (fun y10 : Int32 => dk_gd (dk_in x1 4) (dk_gd (dk_in (4 + x2) 6) (dk_lt (dk_si r5.2 ((51 + 2 * x1.toNatClampNeg) + 1) (4 + x2).toNatClampNeg x3) (fun S12 => some (y10, S12)))))))) else some ((-1), r5.2)) else some ((-1), r3.2)) else some ((-1), r1.2))
set_option maxRecDepth 100000 in
set_option maxHeartbeats 4000000 in
theorem ct_X8_wax (l : Launch) (g : dk_G) (x1 : Int32) (x2 : Int32) (x3 : Int32) (S : dk_S)  : dk_M l g yX8_wax cX8_wax 5 (some .int) 2 42 [.ref (g.1 0), .int x1, .int x2, .int x3] S (fX8_wax x1 x2 x3 S) dk_qi := by
  refine dk_enter "DuckWalk" (by decide +kernel) rfl (Nat.le_of_ble_eq_true rfl) [(0, .ref (g.1 0)), (1, .int x1), (2, .int x2), (3, .int x3)] rfl ?_
  intro p e s m args below meth c C
  unfold fX8_wax
  refine dj_iload_n C 1 rfl dX8_wax_0 ?_
  refine dj_callSi (As := [.int x1]) C dw_X8_94 (ct_X8_noWalker l g x1 S) ⟨Nat.le_of_ble_eq_true rfl, Nat.le_of_ble_eq_true rfl⟩ rfl (Nat.le_of_ble_eq_true rfl) rfl dX8_wax_1 (fun r1 => ?_)
  refine dj_if_ne (tgt := 26) C dX8_wax_4 (by decide) (fun c2 => ?_) (fun c2 => ?_)
  · refine dj_iconst C dX8_wax_26 dc_iconst_m1 ?_
    exact dj_iret C dX8_wax_27
  · refine dj_iload_n C 2 rfl dX8_wax_7 ?_
    refine dj_iconst C dX8_wax_8 dc_iconst_0 ?_
    refine dj_iconst C dX8_wax_9 dc_iconst_1 ?_
    refine dj_callSi (As := [.int x2, .int 0, .int 1]) C dw_X8_90 (ct_X8_isOutside l g x2 0 1 r1.2) ⟨Nat.le_of_ble_eq_true rfl, Nat.le_of_ble_eq_true rfl⟩ rfl (Nat.le_of_ble_eq_true rfl) rfl dX8_wax_10 (fun r3 => ?_)
    refine dj_if_ne (tgt := 26) C dX8_wax_13 (by decide) (fun c4 => ?_) (fun c4 => ?_)
    · refine dj_iconst C dX8_wax_26 dc_iconst_m1 ?_
      exact dj_iret C dX8_wax_27
    · refine dj_iload_n C 3 rfl dX8_wax_16 ?_
      refine dj_iconst C dX8_wax_17 dc_iconst_0 ?_
      refine dj_bipush C dX8_wax_18 dc_bipush_9 ?_
      refine dj_callSi (As := [.int x3, .int 0, .int 9]) C dw_X8_90 (ct_X8_isOutside l g x3 0 9 r3.2) ⟨Nat.le_of_ble_eq_true rfl, Nat.le_of_ble_eq_true rfl⟩ rfl (Nat.le_of_ble_eq_true rfl) rfl dX8_wax_20 (fun r5 => ?_)
      refine dj_if_eq (tgt := 28) C dX8_wax_23 (by decide) (fun c6 => ?_) (fun c6 => ?_)
      · refine dj_aload_n C 0 rfl dX8_wax_28 ?_
        refine dj_getr (r := 3) (k2 := 3) C dl_X8_23 rfl dz_0 rfl dX8_wax_29 ?_
        refine dj_iload_n C 1 rfl dX8_wax_32 ?_
        refine dj_aald C dr_52 dz_3 dX8_wax_33 (fun hi7 => ?_)
        refine dj_geti C dl_X8_110 rfl (dt_52 hi7) dX8_wax_34 ?_
        refine dj_if_ne (tgt := 46) C dX8_wax_37 (by decide) (fun c8 => ?_) (fun c8 => ?_)
        · refine dj_aload_n C 0 rfl dX8_wax_46 ?_
          refine dj_getr (r := 3) (k2 := 3) C dl_X8_23 rfl dz_0 rfl dX8_wax_47 ?_
          refine dj_iload_n C 1 rfl dX8_wax_50 ?_
          refine dj_aald C dr_52 dz_3 dX8_wax_51 (fun hi9 => ?_)
          refine dj_getr (r := 1) (k2 := (51 + 2 * x1.toNatClampNeg) + 1) C dl_X8_226 rfl (dt_52 hi9) rfl dX8_wax_52 ?_
          refine dj_iconst C dX8_wax_55 dc_iconst_4 ?_
          refine dj_iload_n C 2 rfl dX8_wax_56 ?_
          refine dj_iadd C dX8_wax_57 ?_
          refine dj_iald (n := 6) C (dt_1_1 (dt_52 hi9)) (by decide) dX8_wax_58 ?_
          refine dj_lti (fun y10 => ?_)
          refine dj_istore (lv2 := [(0, .ref (g.1 0)), (1, .int x1), (2, .int x2), (3, .int x3), (4, .int y10)]) C [1, 2, 3, 4, 0] dX8_wax_59 (by decide) rfl ?_
          refine dj_aload_n C 0 rfl dX8_wax_61 ?_
          refine dj_getr (r := 3) (k2 := 3) C dl_X8_23 rfl dz_0 rfl dX8_wax_62 ?_
          refine dj_iload_n C 1 rfl dX8_wax_65 ?_
          refine dj_aald C dr_52 dz_3 dX8_wax_66 (fun hi11 => ?_)
          refine dj_getr (r := 1) (k2 := (51 + 2 * x1.toNatClampNeg) + 1) C dl_X8_226 rfl (dt_52 hi11) rfl dX8_wax_67 ?_
          refine dj_iconst C dX8_wax_70 dc_iconst_4 ?_
          refine dj_iload_n C 2 rfl dX8_wax_71 ?_
          refine dj_iadd C dX8_wax_72 ?_
          refine dj_iload_n C 3 rfl dX8_wax_73 ?_
          refine dj_iast (n := 6) C (dt_1_1 (dt_52 hi11)) (by decide) dX8_wax_74 (fun S12 => ?_)
          refine dj_iload C 4 rfl dX8_wax_75 ?_
          exact dj_iret C dX8_wax_77
        · refine dj_aload_n C 0 rfl dX8_wax_40 ?_
          refine dj_iconst C dX8_wax_41 dc_iconst_1 ?_
          refine dj_callVi (t := 8) (As := [.int 1]) C dw_X8_150 ⟨_, _, rfl⟩ (by decide) dz_0 (ct_X8_found l g 1 r5.2) ⟨Nat.le_of_ble_eq_true rfl, Nat.le_of_ble_eq_true rfl⟩ rfl (Nat.le_of_ble_eq_true rfl) rfl dX8_wax_42 (fun r13 => ?_)
          exact dj_iret C dX8_wax_45
      · refine dj_iconst C dX8_wax_26 dc_iconst_m1 ?_
        exact dj_iret C dX8_wax_27
noncomputable def fX8_walk (x1 : Int32) (x2 : Int32) (x3 : Int32) (x4 : Int32) (x5 : Int32) (S : dk_S) : Option (Int32 × dk_S) := (fX8_noGoing x1 x2 x3 x4 S).bind (fun r1 => if r1.1 = 0 then (fX8_isOutside x5 0 1 r1.2).bind (fun r3 => if r3.1 = 0 then dk_gd (dk_in x1 4) (if (r3.2.1 (51 + 2 * x1.toNatClampNeg) 2) = 0 then (fX8_found 1 r3.2).bind (fun r7 => some (r7.1, r7.2)) else dk_gd (dk_in x2 4) (if (r3.2.1 (59 + 2 * x2.toNatClampNeg) 2) = 0 then (fX8_found 1 r3.2).bind (fun r17 => some (r17.1, r17.2)) else dk_gd (dk_in x1 4) ((fX1_take 6 (51 + 2 * x1.toNatClampNeg) r3.2).bind (fun r11 => dk_gd (dk_in x2 4) ((fX3_take 8 (59 + 2 * x2.toNatClampNeg) r11).bind (fun r13 => (fX0_begin 5 x3 x4 x5 r13).bind (fun r14 => dk_lt (dk_si r14 5 2 1) (fun S15 => (fX1_gain 6 x3 x5 S15).bind (fun r16 => some (r16.1, r16.2)))))))))) else some ((-1), r3.2)) else some ((-1), r1.2))
set_option maxRecDepth 100000 in
set_option maxHeartbeats 4000000 in
theorem ct_X8_walk (l : Launch) (g : dk_G) (x1 : Int32) (x2 : Int32) (x3 : Int32) (x4 : Int32) (x5 : Int32) (S : dk_S)  : dk_M l g yX8_walk cX8_walk 6 (some .int) 4 87 [.ref (g.1 0), .int x1, .int x2, .int x3, .int x4, .int x5] S (fX8_walk x1 x2 x3 x4 x5 S) dk_qi := by
  refine dk_enter "DuckWalk" (by decide +kernel) rfl (Nat.le_of_ble_eq_true rfl) [(0, .ref (g.1 0)), (1, .int x1), (2, .int x2), (3, .int x3), (4, .int x4), (5, .int x5)] rfl ?_
  intro p e s m args below meth c C
  unfold fX8_walk
  refine dj_iload_n C 1 rfl dX8_walk_0 ?_
  refine dj_iload_n C 2 rfl dX8_walk_1 ?_
  refine dj_iload_n C 3 rfl dX8_walk_2 ?_
  refine dj_iload C 4 rfl dX8_walk_3 ?_
  refine dj_callSi (As := [.int x1, .int x2, .int x3, .int x4]) C dw_X8_229 (ct_X8_noGoing l g x1 x2 x3 x4 S) ⟨Nat.le_of_ble_eq_true rfl, Nat.le_of_ble_eq_true rfl⟩ rfl (Nat.le_of_ble_eq_true rfl) rfl dX8_walk_5 (fun r1 => ?_)
  refine dj_if_ne (tgt := 21) C dX8_walk_8 (by decide) (fun c2 => ?_) (fun c2 => ?_)
  · refine dj_iconst C dX8_walk_21 dc_iconst_m1 ?_
    exact dj_iret C dX8_walk_22
  · refine dj_iload C 5 rfl dX8_walk_11 ?_
    refine dj_iconst C dX8_walk_13 dc_iconst_0 ?_
    refine dj_iconst C dX8_walk_14 dc_iconst_1 ?_
    refine dj_callSi (As := [.int x5, .int 0, .int 1]) C dw_X8_90 (ct_X8_isOutside l g x5 0 1 r1.2) ⟨Nat.le_of_ble_eq_true rfl, Nat.le_of_ble_eq_true rfl⟩ rfl (Nat.le_of_ble_eq_true rfl) rfl dX8_walk_15 (fun r3 => ?_)
    refine dj_if_eq (tgt := 23) C dX8_walk_18 (by decide) (fun c4 => ?_) (fun c4 => ?_)
    · refine dj_aload_n C 0 rfl dX8_walk_23 ?_
      refine dj_getr (r := 3) (k2 := 3) C dl_X8_23 rfl dz_0 rfl dX8_walk_24 ?_
      refine dj_iload_n C 1 rfl dX8_walk_27 ?_
      refine dj_aald C dr_52 dz_3 dX8_walk_28 (fun hi5 => ?_)
      refine dj_geti C dl_X8_110 rfl (dt_52 hi5) dX8_walk_29 ?_
      refine dj_if_eq (tgt := 47) C dX8_walk_32 (by decide) (fun c6 => ?_) (fun c6 => ?_)
      · refine dj_aload_n C 0 rfl dX8_walk_47 ?_
        refine dj_iconst C dX8_walk_48 dc_iconst_1 ?_
        refine dj_callVi (t := 8) (As := [.int 1]) C dw_X8_150 ⟨_, _, rfl⟩ (by decide) dz_0 (ct_X8_found l g 1 r3.2) ⟨Nat.le_of_ble_eq_true rfl, Nat.le_of_ble_eq_true rfl⟩ rfl (Nat.le_of_ble_eq_true rfl) rfl dX8_walk_49 (fun r7 => ?_)
        exact dj_iret C dX8_walk_52
      · refine dj_aload_n C 0 rfl dX8_walk_35 ?_
        refine dj_getr (r := 4) (k2 := 4) C dl_X8_29 rfl dz_0 rfl dX8_walk_36 ?_
        refine dj_iload_n C 2 rfl dX8_walk_39 ?_
        refine dj_aald C dr_53 dz_4 dX8_walk_40 (fun hi8 => ?_)
        refine dj_geti C dl_X8_114 rfl (dt_53 hi8) dX8_walk_41 ?_
        refine dj_if_ne (tgt := 53) C dX8_walk_44 (by decide) (fun c9 => ?_) (fun c9 => ?_)
        · refine dj_aload_n C 0 rfl dX8_walk_53 ?_
          refine dj_getr (r := 5) (k2 := 5) C dl_X8_36 rfl dz_0 rfl dX8_walk_54 ?_
          refine dj_getr (r := 1) (k2 := 6) C dl_X8_116 rfl dz_5 rfl dX8_walk_57 ?_
          refine dj_aload_n C 0 rfl dX8_walk_60 ?_
          refine dj_getr (r := 3) (k2 := 3) C dl_X8_23 rfl dz_0 rfl dX8_walk_61 ?_
          refine dj_iload_n C 1 rfl dX8_walk_64 ?_
          refine dj_aald C dr_52 dz_3 dX8_walk_65 (fun hi10 => ?_)
          refine dj_callVv (t := 1) (As := [.ref (g.1 (51 + 2 * x1.toNatClampNeg))]) C dw_X8_120 ⟨_, _, rfl⟩ (by decide) dz_6 (ct_X1_take l g 6 (51 + 2 * x1.toNatClampNeg) r3.2 dz_6 (dt_52 hi10)) ⟨Nat.le_of_ble_eq_true rfl, Nat.le_of_ble_eq_true rfl⟩ rfl (Nat.le_of_ble_eq_true rfl) rfl dX8_walk_66 (fun r11 => ?_)
          refine dj_aload_n C 0 rfl dX8_walk_69 ?_
          refine dj_getr (r := 5) (k2 := 5) C dl_X8_36 rfl dz_0 rfl dX8_walk_70 ?_
          refine dj_getr (r := 3) (k2 := 8) C dl_X8_124 rfl dz_5 rfl dX8_walk_73 ?_
          refine dj_aload_n C 0 rfl dX8_walk_76 ?_
          refine dj_getr (r := 4) (k2 := 4) C dl_X8_29 rfl dz_0 rfl dX8_walk_77 ?_
          refine dj_iload_n C 2 rfl dX8_walk_80 ?_
          refine dj_aald C dr_53 dz_4 dX8_walk_81 (fun hi12 => ?_)
          refine dj_callVv (t := 3) (As := [.ref (g.1 (59 + 2 * x2.toNatClampNeg))]) C dw_X8_214 ⟨_, _, rfl⟩ (by decide) dz_8 (ct_X3_take l g 8 (59 + 2 * x2.toNatClampNeg) r11 dz_8 (dt_53 hi12)) ⟨Nat.le_of_ble_eq_true rfl, Nat.le_of_ble_eq_true rfl⟩ rfl (Nat.le_of_ble_eq_true rfl) rfl dX8_walk_82 (fun r13 => ?_)
          refine dj_aload_n C 0 rfl dX8_walk_85 ?_
          refine dj_getr (r := 5) (k2 := 5) C dl_X8_36 rfl dz_0 rfl dX8_walk_86 ?_
          refine dj_iload_n C 3 rfl dX8_walk_89 ?_
          refine dj_iload C 4 rfl dX8_walk_90 ?_
          refine dj_iload C 5 rfl dX8_walk_92 ?_
          refine dj_callVv (t := 0) (As := [.int x3, .int x4, .int x5]) C dw_X8_233 ⟨_, _, rfl⟩ (by decide) dz_5 (ct_X0_begin l g 5 x3 x4 x5 r13 dz_5) ⟨Nat.le_of_ble_eq_true rfl, Nat.le_of_ble_eq_true rfl⟩ rfl (Nat.le_of_ble_eq_true rfl) rfl dX8_walk_94 (fun r14 => ?_)
          refine dj_aload_n C 0 rfl dX8_walk_97 ?_
          refine dj_getr (r := 5) (k2 := 5) C dl_X8_36 rfl dz_0 rfl dX8_walk_98 ?_
          refine dj_iconst C dX8_walk_101 dc_iconst_1 ?_
          refine dj_putz C dl_X8_237 dp_0_2 rfl dz_5 (by decide) dX8_walk_102 (fun S15 => ?_)
          refine dj_aload_n C 0 rfl dX8_walk_105 ?_
          refine dj_getr (r := 5) (k2 := 5) C dl_X8_36 rfl dz_0 rfl dX8_walk_106 ?_
          refine dj_getr (r := 1) (k2 := 6) C dl_X8_116 rfl dz_5 rfl dX8_walk_109 ?_
          refine dj_iload_n C 3 rfl dX8_walk_112 ?_
          refine dj_iload C 5 rfl dX8_walk_113 ?_
          refine dj_callVi (t := 1) (As := [.int x3, .int x5]) C dw_X8_238 ⟨_, _, rfl⟩ (by decide) dz_6 (ct_X1_gain l g 6 x3 x5 S15 dz_6) ⟨Nat.le_of_ble_eq_true rfl, Nat.le_of_ble_eq_true rfl⟩ rfl (Nat.le_of_ble_eq_true rfl) rfl dX8_walk_115 (fun r16 => ?_)
          exact dj_iret C dX8_walk_118
        · refine dj_aload_n C 0 rfl dX8_walk_47 ?_
          refine dj_iconst C dX8_walk_48 dc_iconst_1 ?_
          refine dj_callVi (t := 8) (As := [.int 1]) C dw_X8_150 ⟨_, _, rfl⟩ (by decide) dz_0 (ct_X8_found l g 1 r3.2) ⟨Nat.le_of_ble_eq_true rfl, Nat.le_of_ble_eq_true rfl⟩ rfl (Nat.le_of_ble_eq_true rfl) rfl dX8_walk_49 (fun r17 => ?_)
          exact dj_iret C dX8_walk_52
    · refine dj_iconst C dX8_walk_21 dc_iconst_m1 ?_
      exact dj_iret C dX8_walk_22
noncomputable def fX8_go (x1 : Int32) (S : dk_S) : Option (Int32 × dk_S) := (fX8_isOutside x1 0 400 S).bind (fun r1 => if r1.1 = 0 then if (r1.2.1 5 2) = 0 then some ((-4), r1.2) else if ((r1.2.1 5 6) + x1) ≤ 10000 then (fX0_strideOn 5 x1 r1.2).bind (fun r5 => some (r5.1, r5.2)) else some ((-6), r1.2) else some ((-1), r1.2))
set_option maxRecDepth 100000 in
set_option maxHeartbeats 4000000 in
theorem ct_X8_go (l : Launch) (g : dk_G) (x1 : Int32) (S : dk_S)  : dk_M l g yX8_go cX8_go 2 (some .int) 4 87 [.ref (g.1 0), .int x1] S (fX8_go x1 S) dk_qi := by
  refine dk_enter "DuckWalk" (by decide +kernel) rfl (Nat.le_of_ble_eq_true rfl) [(0, .ref (g.1 0)), (1, .int x1)] rfl ?_
  intro p e s m args below meth c C
  unfold fX8_go
  refine dj_iload_n C 1 rfl dX8_go_0 ?_
  refine dj_iconst C dX8_go_1 dc_iconst_0 ?_
  refine dj_sipush C dX8_go_2 dc_sipush_400 ?_
  refine dj_callSi (As := [.int x1, .int 0, .int 400]) C dw_X8_90 (ct_X8_isOutside l g x1 0 400 S) ⟨Nat.le_of_ble_eq_true rfl, Nat.le_of_ble_eq_true rfl⟩ rfl (Nat.le_of_ble_eq_true rfl) rfl dX8_go_5 (fun r1 => ?_)
  refine dj_if_eq (tgt := 13) C dX8_go_8 (by decide) (fun c2 => ?_) (fun c2 => ?_)
  · refine dj_aload_n C 0 rfl dX8_go_13 ?_
    refine dj_getr (r := 5) (k2 := 5) C dl_X8_36 rfl dz_0 rfl dX8_go_14 ?_
    refine dj_geti C dl_X8_237 rfl dz_5 dX8_go_17 ?_
    refine dj_if_ne (tgt := 26) C dX8_go_20 (by decide) (fun c3 => ?_) (fun c3 => ?_)
    · refine dj_aload_n C 0 rfl dX8_go_26 ?_
      refine dj_getr (r := 5) (k2 := 5) C dl_X8_36 rfl dz_0 rfl dX8_go_27 ?_
      refine dj_geti C dl_X8_241 rfl dz_5 dX8_go_30 ?_
      refine dj_iload_n C 1 rfl dX8_go_33 ?_
      refine dj_iadd C dX8_go_34 ?_
      refine dj_sipush C dX8_go_35 dc_sipush_10000 ?_
      refine dj_icmp_le (tgt := 44) C dX8_go_38 (by decide) (fun c4 => ?_) (fun c4 => ?_)
      · refine dj_aload_n C 0 rfl dX8_go_44 ?_
        refine dj_getr (r := 5) (k2 := 5) C dl_X8_36 rfl dz_0 rfl dX8_go_45 ?_
        refine dj_iload_n C 1 rfl dX8_go_48 ?_
        refine dj_callVi (t := 0) (As := [.int x1]) C dw_X8_244 ⟨_, _, rfl⟩ (by decide) dz_5 (ct_X0_strideOn l g 5 x1 r1.2 dz_5) ⟨Nat.le_of_ble_eq_true rfl, Nat.le_of_ble_eq_true rfl⟩ rfl (Nat.le_of_ble_eq_true rfl) rfl dX8_go_49 (fun r5 => ?_)
        exact dj_iret C dX8_go_52
      · refine dj_bipush C dX8_go_41 dc_bipush_m6 ?_
        exact dj_iret C dX8_go_43
    · refine dj_bipush C dX8_go_23 dc_bipush_m4 ?_
      exact dj_iret C dX8_go_25
  · refine dj_iconst C dX8_go_11 dc_iconst_m1 ?_
    exact dj_iret C dX8_go_12
noncomputable def fX8_told (x1 : Int32) (S : dk_S) : Option (Int32 × dk_S) := (fX8_isOutside x1 0 6 S).bind (fun r1 => if r1.1 = 0 then if (r1.2.1 5 2) = 0 then some ((-4), r1.2) else (fX0_value 5 x1 r1.2).bind (fun r4 => (fX8_tell r4.1 r4.2).bind (fun r5 => some (r5.1, r5.2))) else some ((-1), r1.2))
set_option maxRecDepth 100000 in
set_option maxHeartbeats 4000000 in
theorem ct_X8_told (l : Launch) (g : dk_G) (x1 : Int32) (S : dk_S)  : dk_M l g yX8_told cX8_told 2 (some .int) 1 22 [.ref (g.1 0), .int x1] S (fX8_told x1 S) dk_qi := by
  refine dk_enter "DuckWalk" (by decide +kernel) rfl (Nat.le_of_ble_eq_true rfl) [(0, .ref (g.1 0)), (1, .int x1)] rfl ?_
  intro p e s m args below meth c C
  unfold fX8_told
  refine dj_iload_n C 1 rfl dX8_told_0 ?_
  refine dj_iconst C dX8_told_1 dc_iconst_0 ?_
  refine dj_bipush C dX8_told_2 dc_bipush_6 ?_
  refine dj_callSi (As := [.int x1, .int 0, .int 6]) C dw_X8_90 (ct_X8_isOutside l g x1 0 6 S) ⟨Nat.le_of_ble_eq_true rfl, Nat.le_of_ble_eq_true rfl⟩ rfl (Nat.le_of_ble_eq_true rfl) rfl dX8_told_4 (fun r1 => ?_)
  refine dj_if_eq (tgt := 12) C dX8_told_7 (by decide) (fun c2 => ?_) (fun c2 => ?_)
  · refine dj_aload_n C 0 rfl dX8_told_12 ?_
    refine dj_getr (r := 5) (k2 := 5) C dl_X8_36 rfl dz_0 rfl dX8_told_13 ?_
    refine dj_geti C dl_X8_237 rfl dz_5 dX8_told_16 ?_
    refine dj_if_ne (tgt := 25) C dX8_told_19 (by decide) (fun c3 => ?_) (fun c3 => ?_)
    · refine dj_aload_n C 0 rfl dX8_told_25 ?_
      refine dj_aload_n C 0 rfl dX8_told_26 ?_
      refine dj_getr (r := 5) (k2 := 5) C dl_X8_36 rfl dz_0 rfl dX8_told_27 ?_
      refine dj_iload_n C 1 rfl dX8_told_30 ?_
      refine dj_callVi (t := 0) (As := [.int x1]) C dw_X8_247 ⟨_, _, rfl⟩ (by decide) dz_5 (ct_X0_value l g 5 x1 r1.2 dz_5) ⟨Nat.le_of_ble_eq_true rfl, Nat.le_of_ble_eq_true rfl⟩ rfl (Nat.le_of_ble_eq_true rfl) rfl dX8_told_31 (fun r4 => ?_)
      refine dj_callVi (t := 8) (As := [.int r4.1]) C dw_X8_167 ⟨_, _, rfl⟩ (by decide) dz_0 (ct_X8_tell l g r4.1 r4.2) ⟨Nat.le_of_ble_eq_true rfl, Nat.le_of_ble_eq_true rfl⟩ rfl (Nat.le_of_ble_eq_true rfl) rfl dX8_told_34 (fun r5 => ?_)
      exact dj_iret C dX8_told_37
    · refine dj_bipush C dX8_told_22 dc_bipush_m4 ?_
      exact dj_iret C dX8_told_24
  · refine dj_iconst C dX8_told_10 dc_iconst_m1 ?_
    exact dj_iret C dX8_told_11
noncomputable def fX8_tocks_L62 (x1 : Int32) (x2 : Int32) : Nat → Int32 → dk_S → Option (Int32 × dk_S)
  | 0, _, _ => none
  | n + 1, x3, S => if x1 ≤ x3 then some (x3, S) else (fX0_stride 5 S).bind (fun r10 => if r10.1 = 0 then some (x3, r10.2) else dk_gd (dk_in x2 6) (dk_gd (dk_in x3 60) (dk_lt (dk_si r10.2 ((31 + 2 * x2.toNatClampNeg) + 1) x3.toNatClampNeg (r10.2.1 5 4)) (fun S13 => fX8_tocks_L62 x1 x2 n (x3 + 1) S13))))
noncomputable def fX8_tocks (x1 : Int32) (x2 : Int32) (S : dk_S) : Option (Int32 × dk_S) := (fX8_isOutside x1 0 60 S).bind (fun r1 => if r1.1 = 0 then (fX8_noRow x2 r1.2).bind (fun r3 => if r3.1 = 0 then if (r3.2.1 5 2) = 0 then some ((-4), r3.2) else if ((r3.2.1 5 6) + x1) ≤ 10000 then dk_gd (dk_in x2 6) ((fX5_renew (31 + 2 * x2.toNatClampNeg) x1 r3.2).bind (fun r8 => fX8_tocks_L62 x1 x2 dk_FU 0 r8)) else some ((-6), r3.2) else some ((-1), r3.2)) else some ((-1), r1.2))
set_option maxRecDepth 100000 in
set_option maxHeartbeats 4000000 in
theorem jX8_tocks_L62 {p : Program} {l : Launch} {e : Env} {R : Room} {s : State} {m : MethodId} {args : Array Value} {below : List Frame} {meth : Method} {c : Code} {g : dk_G} (C : dk_C p l e R s m args below meth c g cX8_tocks "DuckWalk" 4 (some .int)) (hR : R = { frames := 3, cells := 0, slots := 0, locals := 65 }) (x1 : Int32) (x2 : Int32)   : ∀ (n : Nat) (x3 : Int32) (S : dk_S), dk_J p l e R s m args below meth c g 4 dk_qi 62 [(0, .ref (g.1 0)), (1, .int x1), (2, .int x2), (3, .int x3)] [] S (fX8_tocks_L62 x1 x2 n x3 S) some := by
  subst hR
  intro n
  induction n with
  | zero =>
    intro x3 S
    exact dj_none
  | succ n ih =>
    intro x3 S
    rw [fX8_tocks_L62]
    refine dj_iload_n C 3 rfl dX8_tocks_62 ?_
    refine dj_iload_n C 1 rfl dX8_tocks_63 ?_
    refine dj_icmp_ge (tgt := 101) C dX8_tocks_64 (by decide) (fun c9 => ?_) (fun c9 => ?_)
    · refine dj_iload_n C 3 rfl dX8_tocks_101 ?_
      exact dj_iret C dX8_tocks_102
    · refine dj_aload_n C 0 rfl dX8_tocks_67 ?_
      refine dj_getr (r := 5) (k2 := 5) C dl_X8_36 rfl dz_0 rfl dX8_tocks_68 ?_
      refine dj_callVi (t := 0) (As := []) C dw_X8_248 ⟨_, _, rfl⟩ (by decide) dz_5 (ct_X0_stride l g 5 S dz_5) ⟨Nat.le_of_ble_eq_true rfl, Nat.le_of_ble_eq_true rfl⟩ rfl (Nat.le_of_ble_eq_true rfl) rfl dX8_tocks_71 (fun r10 => ?_)
      refine dj_if_eq (tgt := 101) C dX8_tocks_74 (by decide) (fun c11 => ?_) (fun c11 => ?_)
      · refine dj_iload_n C 3 rfl dX8_tocks_101 ?_
        exact dj_iret C dX8_tocks_102
      · refine dj_aload_n C 0 rfl dX8_tocks_77 ?_
        refine dj_getr (r := 1) (k2 := 1) C dl_X8_11 rfl dz_0 rfl dX8_tocks_78 ?_
        refine dj_iload_n C 2 rfl dX8_tocks_81 ?_
        refine dj_aald C dr_50 dz_1 dX8_tocks_82 (fun hi12 => ?_)
        refine dj_getr (r := 1) (k2 := (31 + 2 * x2.toNatClampNeg) + 1) C dl_X8_164 rfl (dt_50 hi12) rfl dX8_tocks_83 ?_
        refine dj_iload_n C 3 rfl dX8_tocks_86 ?_
        refine dj_aload_n C 0 rfl dX8_tocks_87 ?_
        refine dj_getr (r := 5) (k2 := 5) C dl_X8_36 rfl dz_0 rfl dX8_tocks_88 ?_
        refine dj_geti C dl_X8_251 rfl dz_5 dX8_tocks_91 ?_
        refine dj_iast (n := 60) C (dt_5_1 (dt_50 hi12)) (by decide) dX8_tocks_94 (fun S13 => ?_)
        refine dj_iinc (lv2 := [(0, .ref (g.1 0)), (1, .int x1), (2, .int x2), (3, .int (x3 + 1))]) C 3 rfl [1, 2, 3, 0] dX8_tocks_95 dc_iconst_1 (by decide) rfl ?_
        refine dj_goto (tgt := 62) C dX8_tocks_98 (by decide) ?_
        exact ih (x3 + 1) S13
set_option maxRecDepth 100000 in
set_option maxHeartbeats 4000000 in
theorem ct_X8_tocks (l : Launch) (g : dk_G) (x1 : Int32) (x2 : Int32) (S : dk_S)  : dk_M l g yX8_tocks cX8_tocks 4 (some .int) 3 65 [.ref (g.1 0), .int x1, .int x2] S (fX8_tocks x1 x2 S) dk_qi := by
  refine dk_enter "DuckWalk" (by decide +kernel) rfl (Nat.le_of_ble_eq_true rfl) [(0, .ref (g.1 0)), (1, .int x1), (2, .int x2)] rfl ?_
  intro p e s m args below meth c C
  unfold fX8_tocks
  refine dj_iload_n C 1 rfl dX8_tocks_0 ?_
  refine dj_iconst C dX8_tocks_1 dc_iconst_0 ?_
  refine dj_bipush C dX8_tocks_2 dc_bipush_60 ?_
  refine dj_callSi (As := [.int x1, .int 0, .int 60]) C dw_X8_90 (ct_X8_isOutside l g x1 0 60 S) ⟨Nat.le_of_ble_eq_true rfl, Nat.le_of_ble_eq_true rfl⟩ rfl (Nat.le_of_ble_eq_true rfl) rfl dX8_tocks_4 (fun r1 => ?_)
  refine dj_if_ne (tgt := 17) C dX8_tocks_7 (by decide) (fun c2 => ?_) (fun c2 => ?_)
  · refine dj_iconst C dX8_tocks_17 dc_iconst_m1 ?_
    exact dj_iret C dX8_tocks_18
  · refine dj_iload_n C 2 rfl dX8_tocks_10 ?_
    refine dj_callSi (As := [.int x2]) C dw_X8_147 (ct_X8_noRow l g x2 r1.2) ⟨Nat.le_of_ble_eq_true rfl, Nat.le_of_ble_eq_true rfl⟩ rfl (Nat.le_of_ble_eq_true rfl) rfl dX8_tocks_11 (fun r3 => ?_)
    refine dj_if_eq (tgt := 19) C dX8_tocks_14 (by decide) (fun c4 => ?_) (fun c4 => ?_)
    · refine dj_aload_n C 0 rfl dX8_tocks_19 ?_
      refine dj_getr (r := 5) (k2 := 5) C dl_X8_36 rfl dz_0 rfl dX8_tocks_20 ?_
      refine dj_geti C dl_X8_237 rfl dz_5 dX8_tocks_23 ?_
      refine dj_if_ne (tgt := 32) C dX8_tocks_26 (by decide) (fun c5 => ?_) (fun c5 => ?_)
      · refine dj_aload_n C 0 rfl dX8_tocks_32 ?_
        refine dj_getr (r := 5) (k2 := 5) C dl_X8_36 rfl dz_0 rfl dX8_tocks_33 ?_
        refine dj_geti C dl_X8_241 rfl dz_5 dX8_tocks_36 ?_
        refine dj_iload_n C 1 rfl dX8_tocks_39 ?_
        refine dj_iadd C dX8_tocks_40 ?_
        refine dj_sipush C dX8_tocks_41 dc_sipush_10000 ?_
        refine dj_icmp_le (tgt := 50) C dX8_tocks_44 (by decide) (fun c6 => ?_) (fun c6 => ?_)
        · refine dj_aload_n C 0 rfl dX8_tocks_50 ?_
          refine dj_getr (r := 1) (k2 := 1) C dl_X8_11 rfl dz_0 rfl dX8_tocks_51 ?_
          refine dj_iload_n C 2 rfl dX8_tocks_54 ?_
          refine dj_aald C dr_50 dz_1 dX8_tocks_55 (fun hi7 => ?_)
          refine dj_iload_n C 1 rfl dX8_tocks_56 ?_
          refine dj_callVv (t := 5) (As := [.int x1]) C dw_X8_153 ⟨_, _, rfl⟩ (by decide) (dt_50 hi7) (ct_X5_renew l g (31 + 2 * x2.toNatClampNeg) x1 r3.2 (dt_50 hi7)) ⟨Nat.le_of_ble_eq_true rfl, Nat.le_of_ble_eq_true rfl⟩ rfl (Nat.le_of_ble_eq_true rfl) rfl dX8_tocks_57 (fun r8 => ?_)
          refine dj_iconst C dX8_tocks_60 dc_iconst_0 ?_
          refine dj_istore_n (lv2 := [(0, .ref (g.1 0)), (1, .int x1), (2, .int x2), (3, .int 0)]) C [1, 2, 3, 0] dX8_tocks_61 rfl (by decide) rfl ?_
          refine jX8_tocks_L62 C rfl x1 x2 dk_FU 0 r8
        · refine dj_bipush C dX8_tocks_47 dc_bipush_m6 ?_
          exact dj_iret C dX8_tocks_49
      · refine dj_bipush C dX8_tocks_29 dc_bipush_m4 ?_
        exact dj_iret C dX8_tocks_31
    · refine dj_iconst C dX8_tocks_17 dc_iconst_m1 ?_
      exact dj_iret C dX8_tocks_18
noncomputable def fX8_tilt (x1 : Int32) (S : dk_S) : Option (Int32 × dk_S) := (fX8_noSlope x1 S).bind (fun r1 => if r1.1 = 0 then if (r1.2.1 5 2) = 0 then some ((-4), r1.2) else dk_lt (r1.2.1 5 3) (fun y4 : Int32 => dk_lt (dk_si r1.2 5 3 x1) (fun S5 => some (y4, S5))) else some ((-1), r1.2))
set_option maxRecDepth 100000 in
set_option maxHeartbeats 4000000 in
theorem ct_X8_tilt (l : Launch) (g : dk_G) (x1 : Int32) (S : dk_S)  : dk_M l g yX8_tilt cX8_tilt 3 (some .int) 2 42 [.ref (g.1 0), .int x1] S (fX8_tilt x1 S) dk_qi := by
  refine dk_enter "DuckWalk" (by decide +kernel) rfl (Nat.le_of_ble_eq_true rfl) [(0, .ref (g.1 0)), (1, .int x1)] rfl ?_
  intro p e s m args below meth c C
  unfold fX8_tilt
  refine dj_iload_n C 1 rfl dX8_tilt_0 ?_
  refine dj_callSi (As := [.int x1]) C dw_X8_107 (ct_X8_noSlope l g x1 S) ⟨Nat.le_of_ble_eq_true rfl, Nat.le_of_ble_eq_true rfl⟩ rfl (Nat.le_of_ble_eq_true rfl) rfl dX8_tilt_1 (fun r1 => ?_)
  refine dj_if_eq (tgt := 9) C dX8_tilt_4 (by decide) (fun c2 => ?_) (fun c2 => ?_)
  · refine dj_aload_n C 0 rfl dX8_tilt_9 ?_
    refine dj_getr (r := 5) (k2 := 5) C dl_X8_36 rfl dz_0 rfl dX8_tilt_10 ?_
    refine dj_geti C dl_X8_237 rfl dz_5 dX8_tilt_13 ?_
    refine dj_if_ne (tgt := 22) C dX8_tilt_16 (by decide) (fun c3 => ?_) (fun c3 => ?_)
    · refine dj_aload_n C 0 rfl dX8_tilt_22 ?_
      refine dj_getr (r := 5) (k2 := 5) C dl_X8_36 rfl dz_0 rfl dX8_tilt_23 ?_
      refine dj_geti C dl_X8_254 rfl dz_5 dX8_tilt_26 ?_
      refine dj_lti (fun y4 => ?_)
      refine dj_istore_n (lv2 := [(0, .ref (g.1 0)), (1, .int x1), (2, .int y4)]) C [1, 2, 0] dX8_tilt_29 rfl (by decide) rfl ?_
      refine dj_aload_n C 0 rfl dX8_tilt_30 ?_
      refine dj_getr (r := 5) (k2 := 5) C dl_X8_36 rfl dz_0 rfl dX8_tilt_31 ?_
      refine dj_iload_n C 1 rfl dX8_tilt_34 ?_
      refine dj_puti C dl_X8_254 dp_0_3 rfl dz_5 dX8_tilt_35 (fun S5 => ?_)
      refine dj_iload_n C 2 rfl dX8_tilt_38 ?_
      exact dj_iret C dX8_tilt_39
    · refine dj_bipush C dX8_tilt_19 dc_bipush_m4 ?_
      exact dj_iret C dX8_tilt_21
  · refine dj_iconst C dX8_tilt_7 dc_iconst_m1 ?_
    exact dj_iret C dX8_tilt_8
noncomputable def fX8_keep (x1 : Int32) (S : dk_S) : Option (Int32 × dk_S) := (fX8_isOutside x1 0 2 S).bind (fun r1 => if r1.1 = 0 then if (r1.2.1 5 2) = 0 then some ((-4), r1.2) else dk_gd (dk_in x1 3) ((fX0_take (67 + 5 * x1.toNatClampNeg) 5 r1.2).bind (fun r5 => some (r5.1 5 6, r5))) else some ((-1), r1.2))
set_option maxRecDepth 100000 in
set_option maxHeartbeats 4000000 in
theorem ct_X8_keep (l : Launch) (g : dk_G) (x1 : Int32) (S : dk_S)  : dk_M l g yX8_keep cX8_keep 2 (some .int) 3 60 [.ref (g.1 0), .int x1] S (fX8_keep x1 S) dk_qi := by
  refine dk_enter "DuckWalk" (by decide +kernel) rfl (Nat.le_of_ble_eq_true rfl) [(0, .ref (g.1 0)), (1, .int x1)] rfl ?_
  intro p e s m args below meth c C
  unfold fX8_keep
  refine dj_iload_n C 1 rfl dX8_keep_0 ?_
  refine dj_iconst C dX8_keep_1 dc_iconst_0 ?_
  refine dj_iconst C dX8_keep_2 dc_iconst_2 ?_
  refine dj_callSi (As := [.int x1, .int 0, .int 2]) C dw_X8_90 (ct_X8_isOutside l g x1 0 2 S) ⟨Nat.le_of_ble_eq_true rfl, Nat.le_of_ble_eq_true rfl⟩ rfl (Nat.le_of_ble_eq_true rfl) rfl dX8_keep_3 (fun r1 => ?_)
  refine dj_if_eq (tgt := 11) C dX8_keep_6 (by decide) (fun c2 => ?_) (fun c2 => ?_)
  · refine dj_aload_n C 0 rfl dX8_keep_11 ?_
    refine dj_getr (r := 5) (k2 := 5) C dl_X8_36 rfl dz_0 rfl dX8_keep_12 ?_
    refine dj_geti C dl_X8_237 rfl dz_5 dX8_keep_15 ?_
    refine dj_if_ne (tgt := 24) C dX8_keep_18 (by decide) (fun c3 => ?_) (fun c3 => ?_)
    · refine dj_aload_n C 0 rfl dX8_keep_24 ?_
      refine dj_getr (r := 10) (k2 := 10) C dl_X8_40 rfl dz_0 rfl dX8_keep_25 ?_
      refine dj_iload_n C 1 rfl dX8_keep_28 ?_
      refine dj_aald C dr_54 dz_10 dX8_keep_29 (fun hi4 => ?_)
      refine dj_aload_n C 0 rfl dX8_keep_30 ?_
      refine dj_getr (r := 5) (k2 := 5) C dl_X8_36 rfl dz_0 rfl dX8_keep_31 ?_
      refine dj_callVv (t := 0) (As := [.ref (g.1 5)]) C dw_X8_257 ⟨_, _, rfl⟩ (by decide) (dt_54 hi4) (ct_X0_take l g (67 + 5 * x1.toNatClampNeg) 5 r1.2 (dt_54 hi4) dz_5) ⟨Nat.le_of_ble_eq_true rfl, Nat.le_of_ble_eq_true rfl⟩ rfl (Nat.le_of_ble_eq_true rfl) rfl dX8_keep_34 (fun r5 => ?_)
      refine dj_aload_n C 0 rfl dX8_keep_37 ?_
      refine dj_getr (r := 5) (k2 := 5) C dl_X8_36 rfl dz_0 rfl dX8_keep_38 ?_
      refine dj_geti C dl_X8_241 rfl dz_5 dX8_keep_41 ?_
      exact dj_iret C dX8_keep_44
    · refine dj_bipush C dX8_keep_21 dc_bipush_m4 ?_
      exact dj_iret C dX8_keep_23
  · refine dj_iconst C dX8_keep_9 dc_iconst_m1 ?_
    exact dj_iret C dX8_keep_10
noncomputable def fX8_on (x1 : Int32) (S : dk_S) : Option (Int32 × dk_S) := (fX8_isOutside x1 0 2 S).bind (fun r1 => if r1.1 = 0 then dk_gd (dk_in x1 3) (if (r1.2.1 (67 + 5 * x1.toNatClampNeg) 2) = 0 then (fX8_found 1 r1.2).bind (fun r7 => some (r7.1, r7.2)) else dk_gd (dk_in x1 3) ((fX0_take 5 (67 + 5 * x1.toNatClampNeg) r1.2).bind (fun r6 => some (r6.1 5 6, r6)))) else some ((-1), r1.2))
set_option maxRecDepth 100000 in
set_option maxHeartbeats 4000000 in
theorem ct_X8_on (l : Launch) (g : dk_G) (x1 : Int32) (S : dk_S)  : dk_M l g yX8_on cX8_on 2 (some .int) 3 60 [.ref (g.1 0), .int x1] S (fX8_on x1 S) dk_qi := by
  refine dk_enter "DuckWalk" (by decide +kernel) rfl (Nat.le_of_ble_eq_true rfl) [(0, .ref (g.1 0)), (1, .int x1)] rfl ?_
  intro p e s m args below meth c C
  unfold fX8_on
  refine dj_iload_n C 1 rfl dX8_on_0 ?_
  refine dj_iconst C dX8_on_1 dc_iconst_0 ?_
  refine dj_iconst C dX8_on_2 dc_iconst_2 ?_
  refine dj_callSi (As := [.int x1, .int 0, .int 2]) C dw_X8_90 (ct_X8_isOutside l g x1 0 2 S) ⟨Nat.le_of_ble_eq_true rfl, Nat.le_of_ble_eq_true rfl⟩ rfl (Nat.le_of_ble_eq_true rfl) rfl dX8_on_3 (fun r1 => ?_)
  refine dj_if_eq (tgt := 11) C dX8_on_6 (by decide) (fun c2 => ?_) (fun c2 => ?_)
  · refine dj_aload_n C 0 rfl dX8_on_11 ?_
    refine dj_getr (r := 10) (k2 := 10) C dl_X8_40 rfl dz_0 rfl dX8_on_12 ?_
    refine dj_iload_n C 1 rfl dX8_on_15 ?_
    refine dj_aald C dr_54 dz_10 dX8_on_16 (fun hi3 => ?_)
    refine dj_geti C dl_X8_237 rfl (dt_54 hi3) dX8_on_17 ?_
    refine dj_if_ne (tgt := 29) C dX8_on_20 (by decide) (fun c4 => ?_) (fun c4 => ?_)
    · refine dj_aload_n C 0 rfl dX8_on_29 ?_
      refine dj_getr (r := 5) (k2 := 5) C dl_X8_36 rfl dz_0 rfl dX8_on_30 ?_
      refine dj_aload_n C 0 rfl dX8_on_33 ?_
      refine dj_getr (r := 10) (k2 := 10) C dl_X8_40 rfl dz_0 rfl dX8_on_34 ?_
      refine dj_iload_n C 1 rfl dX8_on_37 ?_
      refine dj_aald C dr_54 dz_10 dX8_on_38 (fun hi5 => ?_)
      refine dj_callVv (t := 0) (As := [.ref (g.1 (67 + 5 * x1.toNatClampNeg))]) C dw_X8_257 ⟨_, _, rfl⟩ (by decide) dz_5 (ct_X0_take l g 5 (67 + 5 * x1.toNatClampNeg) r1.2 dz_5 (dt_54 hi5)) ⟨Nat.le_of_ble_eq_true rfl, Nat.le_of_ble_eq_true rfl⟩ rfl (Nat.le_of_ble_eq_true rfl) rfl dX8_on_39 (fun r6 => ?_)
      refine dj_aload_n C 0 rfl dX8_on_42 ?_
      refine dj_getr (r := 5) (k2 := 5) C dl_X8_36 rfl dz_0 rfl dX8_on_43 ?_
      refine dj_geti C dl_X8_241 rfl dz_5 dX8_on_46 ?_
      exact dj_iret C dX8_on_49
    · refine dj_aload_n C 0 rfl dX8_on_23 ?_
      refine dj_iconst C dX8_on_24 dc_iconst_1 ?_
      refine dj_callVi (t := 8) (As := [.int 1]) C dw_X8_150 ⟨_, _, rfl⟩ (by decide) dz_0 (ct_X8_found l g 1 r1.2) ⟨Nat.le_of_ble_eq_true rfl, Nat.le_of_ble_eq_true rfl⟩ rfl (Nat.le_of_ble_eq_true rfl) rfl dX8_on_25 (fun r7 => ?_)
      exact dj_iret C dX8_on_28
  · refine dj_iconst C dX8_on_9 dc_iconst_m1 ?_
    exact dj_iret C dX8_on_10
noncomputable def fJ9_floorMod_7cf53 (x0 : Int32) (x1 : Int32) (S : dk_S) : Option (Int32 × dk_S) := dk_gd (decide (¬ x1 = 0)) (dk_lt (x0 - x0 / x1 * x1) (fun y1 : Int32 => if 0 ≤ (x0 ^^^ x1) then some (y1, S) else if y1 = 0 then some (y1, S) else some (y1 + x1, S)))
set_option maxRecDepth 100000 in
set_option maxHeartbeats 4000000 in
theorem ct_J9_floorMod_7cf53 (l : Launch) (g : dk_G) (x0 : Int32) (x1 : Int32) (S : dk_S)  : dk_M l g yJ9_floorMod_7cf53 cJ9_floorMod_7cf53 3 (some .int) 0 0 [.int x0, .int x1] S (fJ9_floorMod_7cf53 x0 x1 S) dk_qi := by
  refine dk_enter "java/lang/Math" (by decide +kernel) rfl (Nat.le_of_ble_eq_true rfl) [(0, .int x0), (1, .int x1)] rfl ?_
  intro p e s m args below meth c C
  unfold fJ9_floorMod_7cf53
  refine dj_iload_n C 0 rfl dJ9_floorMod_7cf53_0 ?_
  refine dj_iload_n C 1 rfl dJ9_floorMod_7cf53_1 ?_
  refine dj_iremg C dJ9_floorMod_7cf53_2 ?_
  refine dj_lti (fun y1 => ?_)
  refine dj_istore_n (lv2 := [(0, .int x0), (1, .int x1), (2, .int y1)]) C [1, 2, 0] dJ9_floorMod_7cf53_3 rfl (by decide) rfl ?_
  refine dj_iload_n C 0 rfl dJ9_floorMod_7cf53_4 ?_
  refine dj_iload_n C 1 rfl dJ9_floorMod_7cf53_5 ?_
  refine dj_ixor C dJ9_floorMod_7cf53_6 ?_
  refine dj_if_ge (tgt := 18) C dJ9_floorMod_7cf53_7 (by decide) (fun c2 => ?_) (fun c2 => ?_)
  · refine dj_iload_n C 2 rfl dJ9_floorMod_7cf53_18 ?_
    exact dj_iret C dJ9_floorMod_7cf53_19
  · refine dj_iload_n C 2 rfl dJ9_floorMod_7cf53_10 ?_
    refine dj_if_eq (tgt := 18) C dJ9_floorMod_7cf53_11 (by decide) (fun c3 => ?_) (fun c3 => ?_)
    · refine dj_iload_n C 2 rfl dJ9_floorMod_7cf53_18 ?_
      exact dj_iret C dJ9_floorMod_7cf53_19
    · refine dj_iload_n C 2 rfl dJ9_floorMod_7cf53_14 ?_
      refine dj_iload_n C 1 rfl dJ9_floorMod_7cf53_15 ?_
      refine dj_iadd C dJ9_floorMod_7cf53_16 ?_
      exact dj_iret C dJ9_floorMod_7cf53_17
noncomputable def fX8_turns  (S : dk_S) : Option (Int32 × dk_S) := if (S.1 5 2) = 0 then some ((-4), S) else dk_lt ((S.1 7 5) - (S.1 7 4)) (fun y2 : Int32 => dk_lt (fun t3 : Int32 × dk_S => ((fX8_tell t3.1 t3.2).bind (fun r5 => (fJ9_floorMod_7cf53 ((r5.2.1 5 6) * y2) 360 r5.2).bind (fun r6 => some (r6.1, r6.2))) : Option (Int32 × dk_S))) (fun k4 => if y2 = 0 then k4 ((-9), S) else (fX8_divisor y2 360 S).bind (fun r8 => (fJ9_max_7cf53 1 r8.1 r8.2).bind (fun r9 => dk_gd (decide (¬ r9.1 = 0)) (k4 (360 / r9.1, r9.2))))))
set_option maxRecDepth 100000 in
set_option maxHeartbeats 4000000 in
theorem ct_X8_turns (l : Launch) (g : dk_G)  (S : dk_S)  : dk_M l g yX8_turns cX8_turns 2 (some .int) 2 45 [.ref (g.1 0)] S (fX8_turns  S) dk_qi := by
  refine dk_enter "DuckWalk" (by decide +kernel) rfl (Nat.le_of_ble_eq_true rfl) [(0, .ref (g.1 0))] rfl ?_
  intro p e s m args below meth c C
  unfold fX8_turns
  refine dj_aload_n C 0 rfl dX8_turns_0 ?_
  refine dj_getr (r := 5) (k2 := 5) C dl_X8_36 rfl dz_0 rfl dX8_turns_1 ?_
  refine dj_geti C dl_X8_237 rfl dz_5 dX8_turns_4 ?_
  refine dj_if_ne (tgt := 13) C dX8_turns_7 (by decide) (fun c1 => ?_) (fun c1 => ?_)
  · refine dj_aload_n C 0 rfl dX8_turns_13 ?_
    refine dj_getr (r := 5) (k2 := 5) C dl_X8_36 rfl dz_0 rfl dX8_turns_14 ?_
    refine dj_getr (r := 1) (k2 := 6) C dl_X8_116 rfl dz_5 rfl dX8_turns_17 ?_
    refine dj_getr (r := 1) (k2 := 7) C dl_X8_226 rfl dz_6 rfl dX8_turns_20 ?_
    refine dj_iconst C dX8_turns_23 dc_iconst_5 ?_
    refine dj_ialdn (n := 6) (j := 5) C dz_7 (by decide) (by decide) (by decide) dX8_turns_24 ?_
    refine dj_aload_n C 0 rfl dX8_turns_25 ?_
    refine dj_getr (r := 5) (k2 := 5) C dl_X8_36 rfl dz_0 rfl dX8_turns_26 ?_
    refine dj_getr (r := 1) (k2 := 6) C dl_X8_116 rfl dz_5 rfl dX8_turns_29 ?_
    refine dj_getr (r := 1) (k2 := 7) C dl_X8_226 rfl dz_6 rfl dX8_turns_32 ?_
    refine dj_iconst C dX8_turns_35 dc_iconst_4 ?_
    refine dj_ialdn (n := 6) (j := 4) C dz_7 (by decide) (by decide) (by decide) dX8_turns_36 ?_
    refine dj_isub C dX8_turns_37 ?_
    refine dj_lti (fun y2 => ?_)
    refine dj_istore_n (lv2 := [(0, .ref (g.1 0)), (1, .int y2)]) C [1, 0] dX8_turns_38 rfl (by decide) rfl ?_
    refine dj_aload_n C 0 rfl dX8_turns_39 ?_
    refine dj_iload_n C 1 rfl dX8_turns_40 ?_
    refine dj_join 64 (fun t3 : Int32 × dk_S => [(0, .ref (g.1 0)), (1, .int y2)]) (fun t3 : Int32 × dk_S => [.int t3.1, .ref (g.1 0)]) (fun t3 : Int32 × dk_S => t3.2) (fun t3 => ?_) (fun k4 hk4 => ?_)
    · refine dj_callVi (t := 8) (As := [.int t3.1]) C dw_X8_167 ⟨_, _, rfl⟩ (by decide) dz_0 (ct_X8_tell l g t3.1 t3.2) ⟨Nat.le_of_ble_eq_true rfl, Nat.le_of_ble_eq_true rfl⟩ rfl (Nat.le_of_ble_eq_true rfl) rfl dX8_turns_64 (fun r5 => ?_)
      refine dj_pop C dX8_turns_67 rfl ?_
      refine dj_aload_n C 0 rfl dX8_turns_68 ?_
      refine dj_getr (r := 5) (k2 := 5) C dl_X8_36 rfl dz_0 rfl dX8_turns_69 ?_
      refine dj_geti C dl_X8_241 rfl dz_5 dX8_turns_72 ?_
      refine dj_iload_n C 1 rfl dX8_turns_75 ?_
      refine dj_imul C dX8_turns_76 ?_
      refine dj_sipush C dX8_turns_77 dc_sipush_360 ?_
      refine dj_callSi (As := [.int ((r5.2.1 5 6) * y2), .int 360]) C dw_X8_260 (ct_J9_floorMod_7cf53 l g ((r5.2.1 5 6) * y2) 360 r5.2) ⟨Nat.le_of_ble_eq_true rfl, Nat.le_of_ble_eq_true rfl⟩ rfl (Nat.le_of_ble_eq_true rfl) rfl dX8_turns_80 (fun r6 => ?_)
      exact dj_iret C dX8_turns_83
    · refine dj_if_ne (tgt := 49) C dX8_turns_41 (by decide) (fun c7 => ?_) (fun c7 => ?_)
      · refine dj_sipush C dX8_turns_49 dc_sipush_360 ?_
        refine dj_iconst C dX8_turns_52 dc_iconst_1 ?_
        refine dj_iload_n C 1 rfl dX8_turns_53 ?_
        refine dj_sipush C dX8_turns_54 dc_sipush_360 ?_
        refine dj_callSi (As := [.int y2, .int 360]) C dw_X8_134 (ct_X8_divisor l g y2 360 S) ⟨Nat.le_of_ble_eq_true rfl, Nat.le_of_ble_eq_true rfl⟩ rfl (Nat.le_of_ble_eq_true rfl) rfl dX8_turns_57 (fun r8 => ?_)
        refine dj_callSi (As := [.int 1, .int r8.1]) C dw_X8_138 (ct_J9_max_7cf53 l g 1 r8.1 r8.2) ⟨Nat.le_of_ble_eq_true rfl, Nat.le_of_ble_eq_true rfl⟩ rfl (Nat.le_of_ble_eq_true rfl) rfl dX8_turns_60 (fun r9 => ?_)
        refine dj_idivg C dX8_turns_63 ?_
        exact hk4 (360 / r9.1, r9.2)
      · refine dj_bipush C dX8_turns_44 dc_bipush_m9 ?_
        refine dj_goto (tgt := 64) C dX8_turns_46 (by decide) ?_
        exact hk4 ((-9), S)
  · refine dj_bipush C dX8_turns_10 dc_bipush_m4 ?_
    exact dj_iret C dX8_turns_12
noncomputable def fX8_going (x1 : Int32) (x2 : Int32) (x3 : Int32) (x4 : Int32) (S : dk_S) : Option (Int32 × dk_S) := (fX8_noGoing x1 x2 x3 x4 S).bind (fun r1 => if r1.1 = 0 then (fX8_isReady x1 x2 r1.2).bind (fun r3 => if r3.1 = 0 then (fX8_found 1 r3.2).bind (fun r7 => some (r7.1, r7.2)) else (fX7_find x3 x4 r3.2).bind (fun r5 => (fX8_tell (r5.1 16 2) r5).bind (fun r6 => some (r6.2.1 16 1, r6.2)))) else some ((-1), r1.2))
set_option maxRecDepth 100000 in
set_option maxHeartbeats 4000000 in
theorem ct_X8_going (l : Launch) (g : dk_G) (x1 : Int32) (x2 : Int32) (x3 : Int32) (x4 : Int32) (S : dk_S)  : dk_M l g yX8_going cX8_going 5 (some .int) 4 89 [.ref (g.1 0), .int x1, .int x2, .int x3, .int x4] S (fX8_going x1 x2 x3 x4 S) dk_qi := by
  refine dk_enter "DuckWalk" (by decide +kernel) rfl (Nat.le_of_ble_eq_true rfl) [(0, .ref (g.1 0)), (1, .int x1), (2, .int x2), (3, .int x3), (4, .int x4)] rfl ?_
  intro p e s m args below meth c C
  unfold fX8_going
  refine dj_iload_n C 1 rfl dX8_going_0 ?_
  refine dj_iload_n C 2 rfl dX8_going_1 ?_
  refine dj_iload_n C 3 rfl dX8_going_2 ?_
  refine dj_iload C 4 rfl dX8_going_3 ?_
  refine dj_callSi (As := [.int x1, .int x2, .int x3, .int x4]) C dw_X8_229 (ct_X8_noGoing l g x1 x2 x3 x4 S) ⟨Nat.le_of_ble_eq_true rfl, Nat.le_of_ble_eq_true rfl⟩ rfl (Nat.le_of_ble_eq_true rfl) rfl dX8_going_5 (fun r1 => ?_)
  refine dj_if_eq (tgt := 13) C dX8_going_8 (by decide) (fun c2 => ?_) (fun c2 => ?_)
  · refine dj_aload_n C 0 rfl dX8_going_13 ?_
    refine dj_iload_n C 1 rfl dX8_going_14 ?_
    refine dj_iload_n C 2 rfl dX8_going_15 ?_
    refine dj_callVi (t := 8) (As := [.int x1, .int x2]) C dw_X8_263 ⟨_, _, rfl⟩ (by decide) dz_0 (ct_X8_isReady l g x1 x2 r1.2) ⟨Nat.le_of_ble_eq_true rfl, Nat.le_of_ble_eq_true rfl⟩ rfl (Nat.le_of_ble_eq_true rfl) rfl dX8_going_16 (fun r3 => ?_)
    refine dj_if_ne (tgt := 28) C dX8_going_19 (by decide) (fun c4 => ?_) (fun c4 => ?_)
    · refine dj_aload_n C 0 rfl dX8_going_28 ?_
      refine dj_getr (r := 16) (k2 := 16) C dl_X8_54 rfl dz_0 rfl dX8_going_29 ?_
      refine dj_iload_n C 3 rfl dX8_going_32 ?_
      refine dj_iload C 4 rfl dX8_going_33 ?_
      refine dj_callVv (t := 7) (As := [.int x3, .int x4]) C dw_X8_266 ⟨_, _, rfl⟩ (by decide) dz_16 (ct_X7_find l g x3 x4 r3.2) ⟨Nat.le_of_ble_eq_true rfl, Nat.le_of_ble_eq_true rfl⟩ rfl (Nat.le_of_ble_eq_true rfl) rfl dX8_going_35 (fun r5 => ?_)
      refine dj_aload_n C 0 rfl dX8_going_38 ?_
      refine dj_aload_n C 0 rfl dX8_going_39 ?_
      refine dj_getr (r := 16) (k2 := 16) C dl_X8_54 rfl dz_0 rfl dX8_going_40 ?_
      refine dj_geti C dl_X8_270 rfl dz_16 dX8_going_43 ?_
      refine dj_callVi (t := 8) (As := [.int (r5.1 16 2)]) C dw_X8_167 ⟨_, _, rfl⟩ (by decide) dz_0 (ct_X8_tell l g (r5.1 16 2) r5) ⟨Nat.le_of_ble_eq_true rfl, Nat.le_of_ble_eq_true rfl⟩ rfl (Nat.le_of_ble_eq_true rfl) rfl dX8_going_46 (fun r6 => ?_)
      refine dj_pop C dX8_going_49 rfl ?_
      refine dj_aload_n C 0 rfl dX8_going_50 ?_
      refine dj_getr (r := 16) (k2 := 16) C dl_X8_54 rfl dz_0 rfl dX8_going_51 ?_
      refine dj_geti C dl_X8_273 rfl dz_16 dX8_going_54 ?_
      exact dj_iret C dX8_going_57
    · refine dj_aload_n C 0 rfl dX8_going_22 ?_
      refine dj_iconst C dX8_going_23 dc_iconst_1 ?_
      refine dj_callVi (t := 8) (As := [.int 1]) C dw_X8_150 ⟨_, _, rfl⟩ (by decide) dz_0 (ct_X8_found l g 1 r3.2) ⟨Nat.le_of_ble_eq_true rfl, Nat.le_of_ble_eq_true rfl⟩ rfl (Nat.le_of_ble_eq_true rfl) rfl dX8_going_24 (fun r7 => ?_)
      exact dj_iret C dX8_going_27
  · refine dj_iconst C dX8_going_11 dc_iconst_m1 ?_
    exact dj_iret C dX8_going_12
noncomputable def fX8_mark (x1 : Int32) (x2 : Int32) (x3 : Int32) (x4 : Int32) (x5 : Int32) (S : dk_S) : Option (Int32 × dk_S) := (fX8_noGoing x1 x2 x3 x4 S).bind (fun r1 => if r1.1 = 0 then (fX8_isOutside x5 1 7 r1.2).bind (fun r3 => if r3.1 = 0 then (fX8_isReady x1 x2 r3.2).bind (fun r5 => if r5.1 = 0 then (fX8_found 1 r5.2).bind (fun r14 => some (r14.1, r14.2)) else (fX7_find x3 x4 r5.2).bind (fun r7 => (fX7_isOf x5 r7).bind (fun r8 => if r8.1 = 0 then (fX8_found 3 r8.2).bind (fun r13 => some (r13.1, r13.2)) else if x5 = 3 then (fX7_unlikePaces x3 x4 r8.2).bind (fun r12 => some (r12.1, r12.2)) else (fX7_tells x5 r8.2).bind (fun r11 => some (r11.1, r11.2))))) else some ((-1), r3.2)) else some ((-1), r1.2))
set_option maxRecDepth 100000 in
set_option maxHeartbeats 4000000 in
theorem ct_X8_mark (l : Launch) (g : dk_G) (x1 : Int32) (x2 : Int32) (x3 : Int32) (x4 : Int32) (x5 : Int32) (S : dk_S)  : dk_M l g yX8_mark cX8_mark 6 (some .int) 4 92 [.ref (g.1 0), .int x1, .int x2, .int x3, .int x4, .int x5] S (fX8_mark x1 x2 x3 x4 x5 S) dk_qi := by
  refine dk_enter "DuckWalk" (by decide +kernel) rfl (Nat.le_of_ble_eq_true rfl) [(0, .ref (g.1 0)), (1, .int x1), (2, .int x2), (3, .int x3), (4, .int x4), (5, .int x5)] rfl ?_
  intro p e s m args below meth c C
  unfold fX8_mark
  refine dj_iload_n C 1 rfl dX8_mark_0 ?_
  refine dj_iload_n C 2 rfl dX8_mark_1 ?_
  refine dj_iload_n C 3 rfl dX8_mark_2 ?_
  refine dj_iload C 4 rfl dX8_mark_3 ?_
  refine dj_callSi (As := [.int x1, .int x2, .int x3, .int x4]) C dw_X8_229 (ct_X8_noGoing l g x1 x2 x3 x4 S) ⟨Nat.le_of_ble_eq_true rfl, Nat.le_of_ble_eq_true rfl⟩ rfl (Nat.le_of_ble_eq_true rfl) rfl dX8_mark_5 (fun r1 => ?_)
  refine dj_if_ne (tgt := 22) C dX8_mark_8 (by decide) (fun c2 => ?_) (fun c2 => ?_)
  · refine dj_iconst C dX8_mark_22 dc_iconst_m1 ?_
    exact dj_iret C dX8_mark_23
  · refine dj_iload C 5 rfl dX8_mark_11 ?_
    refine dj_iconst C dX8_mark_13 dc_iconst_1 ?_
    refine dj_bipush C dX8_mark_14 dc_bipush_7 ?_
    refine dj_callSi (As := [.int x5, .int 1, .int 7]) C dw_X8_90 (ct_X8_isOutside l g x5 1 7 r1.2) ⟨Nat.le_of_ble_eq_true rfl, Nat.le_of_ble_eq_true rfl⟩ rfl (Nat.le_of_ble_eq_true rfl) rfl dX8_mark_16 (fun r3 => ?_)
    refine dj_if_eq (tgt := 24) C dX8_mark_19 (by decide) (fun c4 => ?_) (fun c4 => ?_)
    · refine dj_aload_n C 0 rfl dX8_mark_24 ?_
      refine dj_iload_n C 1 rfl dX8_mark_25 ?_
      refine dj_iload_n C 2 rfl dX8_mark_26 ?_
      refine dj_callVi (t := 8) (As := [.int x1, .int x2]) C dw_X8_263 ⟨_, _, rfl⟩ (by decide) dz_0 (ct_X8_isReady l g x1 x2 r3.2) ⟨Nat.le_of_ble_eq_true rfl, Nat.le_of_ble_eq_true rfl⟩ rfl (Nat.le_of_ble_eq_true rfl) rfl dX8_mark_27 (fun r5 => ?_)
      refine dj_if_ne (tgt := 39) C dX8_mark_30 (by decide) (fun c6 => ?_) (fun c6 => ?_)
      · refine dj_aload_n C 0 rfl dX8_mark_39 ?_
        refine dj_getr (r := 16) (k2 := 16) C dl_X8_54 rfl dz_0 rfl dX8_mark_40 ?_
        refine dj_iload_n C 3 rfl dX8_mark_43 ?_
        refine dj_iload C 4 rfl dX8_mark_44 ?_
        refine dj_callVv (t := 7) (As := [.int x3, .int x4]) C dw_X8_266 ⟨_, _, rfl⟩ (by decide) dz_16 (ct_X7_find l g x3 x4 r5.2) ⟨Nat.le_of_ble_eq_true rfl, Nat.le_of_ble_eq_true rfl⟩ rfl (Nat.le_of_ble_eq_true rfl) rfl dX8_mark_46 (fun r7 => ?_)
        refine dj_aload_n C 0 rfl dX8_mark_49 ?_
        refine dj_getr (r := 16) (k2 := 16) C dl_X8_54 rfl dz_0 rfl dX8_mark_50 ?_
        refine dj_iload C 5 rfl dX8_mark_53 ?_
        refine dj_callVi (t := 7) (As := [.int x5]) C dw_X8_276 ⟨_, _, rfl⟩ (by decide) dz_16 (ct_X7_isOf l g x5 r7) ⟨Nat.le_of_ble_eq_true rfl, Nat.le_of_ble_eq_true rfl⟩ rfl (Nat.le_of_ble_eq_true rfl) rfl dX8_mark_55 (fun r8 => ?_)
        refine dj_if_ne (tgt := 67) C dX8_mark_58 (by decide) (fun c9 => ?_) (fun c9 => ?_)
        · refine dj_iload C 5 rfl dX8_mark_67 ?_
          refine dj_iconst C dX8_mark_69 dc_iconst_3 ?_
          refine dj_icmp_ne (tgt := 86) C dX8_mark_70 (by decide) (fun c10 => ?_) (fun c10 => ?_)
          · refine dj_aload_n C 0 rfl dX8_mark_86 ?_
            refine dj_getr (r := 16) (k2 := 16) C dl_X8_54 rfl dz_0 rfl dX8_mark_87 ?_
            refine dj_iload C 5 rfl dX8_mark_90 ?_
            refine dj_callVi (t := 7) (As := [.int x5]) C dw_X8_282 ⟨_, _, rfl⟩ (by decide) dz_16 (ct_X7_tells l g x5 r8.2) ⟨Nat.le_of_ble_eq_true rfl, Nat.le_of_ble_eq_true rfl⟩ rfl (Nat.le_of_ble_eq_true rfl) rfl dX8_mark_92 (fun r11 => ?_)
            exact dj_iret C dX8_mark_95
          · refine dj_aload_n C 0 rfl dX8_mark_73 ?_
            refine dj_getr (r := 16) (k2 := 16) C dl_X8_54 rfl dz_0 rfl dX8_mark_74 ?_
            refine dj_iload_n C 3 rfl dX8_mark_77 ?_
            refine dj_iload C 4 rfl dX8_mark_78 ?_
            refine dj_callVi (t := 7) (As := [.int x3, .int x4]) C dw_X8_279 ⟨_, _, rfl⟩ (by decide) dz_16 (ct_X7_unlikePaces l g x3 x4 r8.2) ⟨Nat.le_of_ble_eq_true rfl, Nat.le_of_ble_eq_true rfl⟩ rfl (Nat.le_of_ble_eq_true rfl) rfl dX8_mark_80 (fun r12 => ?_)
            refine dj_goto (tgt := 95) C dX8_mark_83 (by decide) ?_
            exact dj_iret C dX8_mark_95
        · refine dj_aload_n C 0 rfl dX8_mark_61 ?_
          refine dj_iconst C dX8_mark_62 dc_iconst_3 ?_
          refine dj_callVi (t := 8) (As := [.int 3]) C dw_X8_150 ⟨_, _, rfl⟩ (by decide) dz_0 (ct_X8_found l g 3 r8.2) ⟨Nat.le_of_ble_eq_true rfl, Nat.le_of_ble_eq_true rfl⟩ rfl (Nat.le_of_ble_eq_true rfl) rfl dX8_mark_63 (fun r13 => ?_)
          exact dj_iret C dX8_mark_66
      · refine dj_aload_n C 0 rfl dX8_mark_33 ?_
        refine dj_iconst C dX8_mark_34 dc_iconst_1 ?_
        refine dj_callVi (t := 8) (As := [.int 1]) C dw_X8_150 ⟨_, _, rfl⟩ (by decide) dz_0 (ct_X8_found l g 1 r5.2) ⟨Nat.le_of_ble_eq_true rfl, Nat.le_of_ble_eq_true rfl⟩ rfl (Nat.le_of_ble_eq_true rfl) rfl dX8_mark_35 (fun r14 => ?_)
        exact dj_iret C dX8_mark_38
    · refine dj_iconst C dX8_mark_22 dc_iconst_m1 ?_
      exact dj_iret C dX8_mark_23
noncomputable def fX8_lines_L48 (x3 : Int32) (x4 : Int32) : Nat → Int32 → Int32 → Int32 → dk_S → Option (Int32 × dk_S)
  | 0, _, _, _, _ => none
  | n + 1, x5, x6, x7, S => if x7 < 0 then (fX8_tell x6 S).bind (fun r8 => some (x5, r8.2)) else (fX7_find x7 x3 S).bind (fun r9 => (fX7_isOf x4 r9).bind (fun r10 => dk_lt (fun t11 : Int32 × Int32 × dk_S => (fX8_lines_L48 x3 x4 n t11.1 t11.2.1 (x7 + (-1)) t11.2.2 : Option (Int32 × dk_S))) (fun k12 => if r10.1 = 0 then k12 (x5, x6, r10.2) else k12 (x5 + 1, x7, r10.2))))
noncomputable def fX8_lines (x1 : Int32) (x2 : Int32) (x3 : Int32) (x4 : Int32) (S : dk_S) : Option (Int32 × dk_S) := (fX8_noPair x1 x2 x3 S).bind (fun r1 => if r1.1 = 0 then (fX8_isOutside x4 0 7 r1.2).bind (fun r3 => if r3.1 = 0 then (fX8_isReady x1 x2 r3.2).bind (fun r5 => if r5.1 = 0 then (fX8_found 1 r5.2).bind (fun r14 => some (r14.1, r14.2)) else fX8_lines_L48 x3 x4 dk_FU 0 (-9) 99 r5.2) else some ((-1), r3.2)) else some ((-1), r1.2))
set_option maxRecDepth 100000 in
set_option maxHeartbeats 4000000 in
theorem jX8_lines_L48 {p : Program} {l : Launch} {e : Env} {R : Room} {s : State} {m : MethodId} {args : Array Value} {below : List Frame} {meth : Method} {c : Code} {g : dk_G} (C : dk_C p l e R s m args below meth c g cX8_lines "DuckWalk" 8 (some .int)) (hR : R = { frames := 4, cells := 0, slots := 0, locals := 89 }) (x3 : Int32) (x4 : Int32)   : ∀ (n : Nat) (x5 : Int32) (x6 : Int32) (x7 : Int32) (S : dk_S), dk_J p l e R s m args below meth c g 8 dk_qi 48 [(0, .ref (g.1 0)), (3, .int x3), (4, .int x4), (5, .int x5), (6, .int x6), (7, .int x7)] [] S (fX8_lines_L48 x3 x4 n x5 x6 x7 S) some := by
  subst hR
  intro n
  induction n with
  | zero =>
    intro x5 x6 x7 S
    exact dj_none
  | succ n ih =>
    intro x5 x6 x7 S
    rw [fX8_lines_L48]
    refine dj_iload C 5 rfl dX8_lines_48 ?_
    refine dj_if_lt (tgt := 88) C dX8_lines_50 (by decide) (fun c7 => ?_) (fun c7 => ?_)
    · refine dj_aload_n C 0 rfl dX8_lines_88 ?_
      refine dj_iload C 4 rfl dX8_lines_89 ?_
      refine dj_callVi (t := 8) (As := [.int x6]) C dw_X8_167 ⟨_, _, rfl⟩ (by decide) dz_0 (ct_X8_tell l g x6 S) ⟨Nat.le_of_ble_eq_true rfl, Nat.le_of_ble_eq_true rfl⟩ rfl (Nat.le_of_ble_eq_true rfl) rfl dX8_lines_91 (fun r8 => ?_)
      refine dj_pop C dX8_lines_94 rfl ?_
      refine dj_iload C 3 rfl dX8_lines_95 ?_
      exact dj_iret C dX8_lines_97
    · refine dj_aload_n C 0 rfl dX8_lines_53 ?_
      refine dj_getr (r := 16) (k2 := 16) C dl_X8_54 rfl dz_0 rfl dX8_lines_54 ?_
      refine dj_iload C 5 rfl dX8_lines_57 ?_
      refine dj_iload_n C 1 rfl dX8_lines_59 ?_
      refine dj_callVv (t := 7) (As := [.int x7, .int x3]) C dw_X8_266 ⟨_, _, rfl⟩ (by decide) dz_16 (ct_X7_find l g x7 x3 S) ⟨Nat.le_of_ble_eq_true rfl, Nat.le_of_ble_eq_true rfl⟩ rfl (Nat.le_of_ble_eq_true rfl) rfl dX8_lines_60 (fun r9 => ?_)
      refine dj_aload_n C 0 rfl dX8_lines_63 ?_
      refine dj_getr (r := 16) (k2 := 16) C dl_X8_54 rfl dz_0 rfl dX8_lines_64 ?_
      refine dj_iload C 2 rfl dX8_lines_67 ?_
      refine dj_callVi (t := 7) (As := [.int x4]) C dw_X8_276 ⟨_, _, rfl⟩ (by decide) dz_16 (ct_X7_isOf l g x4 r9) ⟨Nat.le_of_ble_eq_true rfl, Nat.le_of_ble_eq_true rfl⟩ rfl (Nat.le_of_ble_eq_true rfl) rfl dX8_lines_69 (fun r10 => ?_)
      refine dj_join 82 (fun t11 : Int32 × Int32 × dk_S => [(0, .ref (g.1 0)), (3, .int x3), (4, .int x4), (5, .int t11.1), (6, .int t11.2.1), (7, .int x7)]) (fun t11 : Int32 × Int32 × dk_S => []) (fun t11 : Int32 × Int32 × dk_S => t11.2.2) (fun t11 => ?_) (fun k12 hk12 => ?_)
      · refine dj_iinc (lv2 := [(0, .ref (g.1 0)), (3, .int x3), (4, .int x4), (5, .int t11.1), (6, .int t11.2.1), (7, .int (x7 + (-1)))]) C 5 rfl [1, 2, 3, 4, 5, 0] dX8_lines_82 dc_iconst_m1 (by decide) rfl ?_
        refine dj_goto (tgt := 48) C dX8_lines_85 (by decide) ?_
        exact ih t11.1 t11.2.1 (x7 + (-1)) t11.2.2
      · refine dj_if_eq (tgt := 82) C dX8_lines_72 (by decide) (fun c13 => ?_) (fun c13 => ?_)
        · exact hk12 (x5, x6, r10.2)
        · refine dj_iinc (lv2 := [(0, .ref (g.1 0)), (3, .int x3), (4, .int x4), (5, .int (x5 + 1)), (6, .int x6), (7, .int x7)]) C 3 rfl [1, 2, 3, 0, 4, 5] dX8_lines_75 dc_iconst_1 (by decide) rfl ?_
          refine dj_iload C 5 rfl dX8_lines_78 ?_
          refine dj_istore (lv2 := [(0, .ref (g.1 0)), (3, .int x3), (4, .int x4), (5, .int (x5 + 1)), (6, .int x7), (7, .int x7)]) C [1, 2, 3, 4, 0, 5] dX8_lines_80 (by decide) rfl ?_
          exact hk12 (x5 + 1, x7, r10.2)
set_option maxRecDepth 100000 in
set_option maxHeartbeats 4000000 in
theorem ct_X8_lines (l : Launch) (g : dk_G) (x1 : Int32) (x2 : Int32) (x3 : Int32) (x4 : Int32) (S : dk_S)  : dk_M l g yX8_lines cX8_lines 8 (some .int) 4 89 [.ref (g.1 0), .int x1, .int x2, .int x3, .int x4] S (fX8_lines x1 x2 x3 x4 S) dk_qi := by
  refine dk_enter "DuckWalk" (by decide +kernel) rfl (Nat.le_of_ble_eq_true rfl) [(0, .ref (g.1 0)), (1, .int x1), (2, .int x2), (3, .int x3), (4, .int x4)] rfl ?_
  intro p e s m args below meth c C
  unfold fX8_lines
  refine dj_iload_n C 1 rfl dX8_lines_0 ?_
  refine dj_iload_n C 2 rfl dX8_lines_1 ?_
  refine dj_iload_n C 3 rfl dX8_lines_2 ?_
  refine dj_callSi (As := [.int x1, .int x2, .int x3]) C dw_X8_104 (ct_X8_noPair l g x1 x2 x3 S) ⟨Nat.le_of_ble_eq_true rfl, Nat.le_of_ble_eq_true rfl⟩ rfl (Nat.le_of_ble_eq_true rfl) rfl dX8_lines_3 (fun r1 => ?_)
  refine dj_if_ne (tgt := 20) C dX8_lines_6 (by decide) (fun c2 => ?_) (fun c2 => ?_)
  · refine dj_iconst C dX8_lines_20 dc_iconst_m1 ?_
    exact dj_iret C dX8_lines_21
  · refine dj_iload C 4 rfl dX8_lines_9 ?_
    refine dj_iconst C dX8_lines_11 dc_iconst_0 ?_
    refine dj_bipush C dX8_lines_12 dc_bipush_7 ?_
    refine dj_callSi (As := [.int x4, .int 0, .int 7]) C dw_X8_90 (ct_X8_isOutside l g x4 0 7 r1.2) ⟨Nat.le_of_ble_eq_true rfl, Nat.le_of_ble_eq_true rfl⟩ rfl (Nat.le_of_ble_eq_true rfl) rfl dX8_lines_14 (fun r3 => ?_)
    refine dj_if_eq (tgt := 22) C dX8_lines_17 (by decide) (fun c4 => ?_) (fun c4 => ?_)
    · refine dj_aload_n C 0 rfl dX8_lines_22 ?_
      refine dj_iload_n C 1 rfl dX8_lines_23 ?_
      refine dj_iload_n C 2 rfl dX8_lines_24 ?_
      refine dj_callVi (t := 8) (As := [.int x1, .int x2]) C dw_X8_263 ⟨_, _, rfl⟩ (by decide) dz_0 (ct_X8_isReady l g x1 x2 r3.2) ⟨Nat.le_of_ble_eq_true rfl, Nat.le_of_ble_eq_true rfl⟩ rfl (Nat.le_of_ble_eq_true rfl) rfl dX8_lines_25 (fun r5 => ?_)
      refine dj_if_ne (tgt := 37) C dX8_lines_28 (by decide) (fun c6 => ?_) (fun c6 => ?_)
      · refine dj_iconst C dX8_lines_37 dc_iconst_0 ?_
        refine dj_istore (lv2 := [(0, .ref (g.1 0)), (3, .int x3), (4, .int x4), (5, .int 0)]) C [1, 4, 5, 0] dX8_lines_38 (by decide) rfl ?_
        refine dj_bipush C dX8_lines_40 dc_bipush_m9 ?_
        refine dj_istore (lv2 := [(0, .ref (g.1 0)), (3, .int x3), (4, .int x4), (5, .int 0), (6, .int (-9))]) C [1, 2, 3, 4, 0] dX8_lines_42 (by decide) rfl ?_
        refine dj_bipush C dX8_lines_44 dc_bipush_99 ?_
        refine dj_istore (lv2 := [(0, .ref (g.1 0)), (3, .int x3), (4, .int x4), (5, .int 0), (6, .int (-9)), (7, .int 99)]) C [1, 2, 3, 4, 5, 0] dX8_lines_46 (by decide) rfl ?_
        refine jX8_lines_L48 C rfl x3 x4 dk_FU 0 (-9) 99 r5.2
      · refine dj_aload_n C 0 rfl dX8_lines_31 ?_
        refine dj_iconst C dX8_lines_32 dc_iconst_1 ?_
        refine dj_callVi (t := 8) (As := [.int 1]) C dw_X8_150 ⟨_, _, rfl⟩ (by decide) dz_0 (ct_X8_found l g 1 r5.2) ⟨Nat.le_of_ble_eq_true rfl, Nat.le_of_ble_eq_true rfl⟩ rfl (Nat.le_of_ble_eq_true rfl) rfl dX8_lines_33 (fun r14 => ?_)
        exact dj_iret C dX8_lines_36
    · refine dj_iconst C dX8_lines_20 dc_iconst_m1 ?_
      exact dj_iret C dX8_lines_21
noncomputable def fX8_begins_L38 (x3 : Int32) : Nat → Int32 → Int32 → Int32 → dk_S → Option (Int32 × dk_S)
  | 0, _, _, _, _ => none
  | n + 1, x4, x5, x6, S => if x6 < 0 then (fX8_tell x5 S).bind (fun r6 => some (x4, r6.2)) else (fX7_walksWell x3 x6 S).bind (fun r7 => dk_lt (fun t8 : Int32 × Int32 × dk_S => (fX8_begins_L38 x3 n t8.1 t8.2.1 (x6 + (-1)) t8.2.2 : Option (Int32 × dk_S))) (fun k9 => if r7.1 = 0 then k9 (x4, x5, r7.2) else k9 (x4 + 1, x6, r7.2)))
noncomputable def fX8_begins (x1 : Int32) (x2 : Int32) (x3 : Int32) (S : dk_S) : Option (Int32 × dk_S) := (fX8_noGoing x1 x2 x3 0 S).bind (fun r1 => if r1.1 = 0 then (fX8_isReady x1 x2 r1.2).bind (fun r3 => if r3.1 = 0 then (fX8_found 1 r3.2).bind (fun r11 => some (r11.1, r11.2)) else fX8_begins_L38 x3 dk_FU 0 (-9) 99 r3.2) else some ((-1), r1.2))
set_option maxRecDepth 100000 in
set_option maxHeartbeats 4000000 in
theorem jX8_begins_L38 {p : Program} {l : Launch} {e : Env} {R : Room} {s : State} {m : MethodId} {args : Array Value} {below : List Frame} {meth : Method} {c : Code} {g : dk_G} (C : dk_C p l e R s m args below meth c g cX8_begins "DuckWalk" 7 (some .int)) (hR : R = { frames := 5, cells := 0, slots := 0, locals := 111 }) (x3 : Int32)   : ∀ (n : Nat) (x4 : Int32) (x5 : Int32) (x6 : Int32) (S : dk_S), dk_J p l e R s m args below meth c g 7 dk_qi 38 [(0, .ref (g.1 0)), (3, .int x3), (4, .int x4), (5, .int x5), (6, .int x6)] [] S (fX8_begins_L38 x3 n x4 x5 x6 S) some := by
  subst hR
  intro n
  induction n with
  | zero =>
    intro x4 x5 x6 S
    exact dj_none
  | succ n ih =>
    intro x4 x5 x6 S
    rw [fX8_begins_L38]
    refine dj_iload C 4 rfl dX8_begins_38 ?_
    refine dj_if_lt (tgt := 69) C dX8_begins_40 (by decide) (fun c5 => ?_) (fun c5 => ?_)
    · refine dj_aload_n C 0 rfl dX8_begins_69 ?_
      refine dj_iload C 3 rfl dX8_begins_70 ?_
      refine dj_callVi (t := 8) (As := [.int x5]) C dw_X8_167 ⟨_, _, rfl⟩ (by decide) dz_0 (ct_X8_tell l g x5 S) ⟨Nat.le_of_ble_eq_true rfl, Nat.le_of_ble_eq_true rfl⟩ rfl (Nat.le_of_ble_eq_true rfl) rfl dX8_begins_72 (fun r6 => ?_)
      refine dj_pop C dX8_begins_75 rfl ?_
      refine dj_iload C 2 rfl dX8_begins_76 ?_
      exact dj_iret C dX8_begins_78
    · refine dj_aload_n C 0 rfl dX8_begins_43 ?_
      refine dj_getr (r := 16) (k2 := 16) C dl_X8_54 rfl dz_0 rfl dX8_begins_44 ?_
      refine dj_iload_n C 1 rfl dX8_begins_47 ?_
      refine dj_iload C 4 rfl dX8_begins_48 ?_
      refine dj_callVi (t := 7) (As := [.int x3, .int x6]) C dw_X8_285 ⟨_, _, rfl⟩ (by decide) dz_16 (ct_X7_walksWell l g x3 x6 S) ⟨Nat.le_of_ble_eq_true rfl, Nat.le_of_ble_eq_true rfl⟩ rfl (Nat.le_of_ble_eq_true rfl) rfl dX8_begins_50 (fun r7 => ?_)
      refine dj_join 63 (fun t8 : Int32 × Int32 × dk_S => [(0, .ref (g.1 0)), (3, .int x3), (4, .int t8.1), (5, .int t8.2.1), (6, .int x6)]) (fun t8 : Int32 × Int32 × dk_S => []) (fun t8 : Int32 × Int32 × dk_S => t8.2.2) (fun t8 => ?_) (fun k9 hk9 => ?_)
      · refine dj_iinc (lv2 := [(0, .ref (g.1 0)), (3, .int x3), (4, .int t8.1), (5, .int t8.2.1), (6, .int (x6 + (-1)))]) C 4 rfl [1, 2, 3, 4, 0] dX8_begins_63 dc_iconst_m1 (by decide) rfl ?_
        refine dj_goto (tgt := 38) C dX8_begins_66 (by decide) ?_
        exact ih t8.1 t8.2.1 (x6 + (-1)) t8.2.2
      · refine dj_if_eq (tgt := 63) C dX8_begins_53 (by decide) (fun c10 => ?_) (fun c10 => ?_)
        · exact hk9 (x4, x5, r7.2)
        · refine dj_iinc (lv2 := [(0, .ref (g.1 0)), (3, .int x3), (4, .int (x4 + 1)), (5, .int x5), (6, .int x6)]) C 2 rfl [1, 2, 0, 3, 4] dX8_begins_56 dc_iconst_1 (by decide) rfl ?_
          refine dj_iload C 4 rfl dX8_begins_59 ?_
          refine dj_istore (lv2 := [(0, .ref (g.1 0)), (3, .int x3), (4, .int (x4 + 1)), (5, .int x6), (6, .int x6)]) C [1, 2, 3, 0, 4] dX8_begins_61 (by decide) rfl ?_
          exact hk9 (x4 + 1, x6, r7.2)
set_option maxRecDepth 100000 in
set_option maxHeartbeats 4000000 in
theorem ct_X8_begins (l : Launch) (g : dk_G) (x1 : Int32) (x2 : Int32) (x3 : Int32) (S : dk_S)  : dk_M l g yX8_begins cX8_begins 7 (some .int) 5 111 [.ref (g.1 0), .int x1, .int x2, .int x3] S (fX8_begins x1 x2 x3 S) dk_qi := by
  refine dk_enter "DuckWalk" (by decide +kernel) rfl (Nat.le_of_ble_eq_true rfl) [(0, .ref (g.1 0)), (1, .int x1), (2, .int x2), (3, .int x3)] rfl ?_
  intro p e s m args below meth c C
  unfold fX8_begins
  refine dj_iload_n C 1 rfl dX8_begins_0 ?_
  refine dj_iload_n C 2 rfl dX8_begins_1 ?_
  refine dj_iload_n C 3 rfl dX8_begins_2 ?_
  refine dj_iconst C dX8_begins_3 dc_iconst_0 ?_
  refine dj_callSi (As := [.int x1, .int x2, .int x3, .int 0]) C dw_X8_229 (ct_X8_noGoing l g x1 x2 x3 0 S) ⟨Nat.le_of_ble_eq_true rfl, Nat.le_of_ble_eq_true rfl⟩ rfl (Nat.le_of_ble_eq_true rfl) rfl dX8_begins_4 (fun r1 => ?_)
  refine dj_if_eq (tgt := 12) C dX8_begins_7 (by decide) (fun c2 => ?_) (fun c2 => ?_)
  · refine dj_aload_n C 0 rfl dX8_begins_12 ?_
    refine dj_iload_n C 1 rfl dX8_begins_13 ?_
    refine dj_iload_n C 2 rfl dX8_begins_14 ?_
    refine dj_callVi (t := 8) (As := [.int x1, .int x2]) C dw_X8_263 ⟨_, _, rfl⟩ (by decide) dz_0 (ct_X8_isReady l g x1 x2 r1.2) ⟨Nat.le_of_ble_eq_true rfl, Nat.le_of_ble_eq_true rfl⟩ rfl (Nat.le_of_ble_eq_true rfl) rfl dX8_begins_15 (fun r3 => ?_)
    refine dj_if_ne (tgt := 27) C dX8_begins_18 (by decide) (fun c4 => ?_) (fun c4 => ?_)
    · refine dj_iconst C dX8_begins_27 dc_iconst_0 ?_
      refine dj_istore (lv2 := [(0, .ref (g.1 0)), (3, .int x3), (4, .int 0)]) C [1, 4, 0] dX8_begins_28 (by decide) rfl ?_
      refine dj_bipush C dX8_begins_30 dc_bipush_m9 ?_
      refine dj_istore (lv2 := [(0, .ref (g.1 0)), (3, .int x3), (4, .int 0), (5, .int (-9))]) C [1, 2, 3, 0] dX8_begins_32 (by decide) rfl ?_
      refine dj_bipush C dX8_begins_34 dc_bipush_99 ?_
      refine dj_istore (lv2 := [(0, .ref (g.1 0)), (3, .int x3), (4, .int 0), (5, .int (-9)), (6, .int 99)]) C [1, 2, 3, 4, 0] dX8_begins_36 (by decide) rfl ?_
      refine jX8_begins_L38 C rfl x3 dk_FU 0 (-9) 99 r3.2
    · refine dj_aload_n C 0 rfl dX8_begins_21 ?_
      refine dj_iconst C dX8_begins_22 dc_iconst_1 ?_
      refine dj_callVi (t := 8) (As := [.int 1]) C dw_X8_150 ⟨_, _, rfl⟩ (by decide) dz_0 (ct_X8_found l g 1 r3.2) ⟨Nat.le_of_ble_eq_true rfl, Nat.le_of_ble_eq_true rfl⟩ rfl (Nat.le_of_ble_eq_true rfl) rfl dX8_begins_23 (fun r11 => ?_)
      exact dj_iret C dX8_begins_26
  · refine dj_iconst C dX8_begins_10 dc_iconst_m1 ?_
    exact dj_iret C dX8_begins_11
noncomputable def fX8_mends_L91 (x7 : Int32) : Nat → Int32 → dk_S → Option (Int32 × dk_S)
  | 0, _, _ => none
  | n + 1, x8, S => if 400 < x8 then some ((-9), S) else (fX0_stride 17 S).bind (fun r12 => if r12.1 = 0 then some ((-9), r12.2) else if (r12.2.1 17 4) = x7 then some (x8, r12.2) else fX8_mends_L91 x7 n (x8 + 1) r12.2)
noncomputable def fX8_mends (x1 : Int32) (x2 : Int32) (x3 : Int32) (x4 : Int32) (x5 : Int32) (S : dk_S) : Option (Int32 × dk_S) := (fX8_noGoing x1 x2 x3 x4 S).bind (fun r1 => if r1.1 = 0 then (fX8_isOutside x5 1 20 r1.2).bind (fun r3 => if r3.1 = 0 then (fX8_isReady x1 x2 r3.2).bind (fun r5 => if r5.1 = 0 then (fX8_found 1 r5.2).bind (fun r16 => some (r16.1, r16.2)) else (fX7_walksWell x3 x4 r5.2).bind (fun r7 => if r7.1 = 0 then (fX8_found 3 r7.2).bind (fun r15 => some (r15.1, r15.2)) else dk_lt (r7.2.1 16 3) (fun y9 : Int32 => (fX0_begin 17 x3 (y9 + x5) 0 r7.2).bind (fun r10 => fX8_mends_L91 y9 dk_FU 1 r10)))) else some ((-1), r3.2)) else some ((-1), r1.2))
set_option maxRecDepth 100000 in
set_option maxHeartbeats 4000000 in
theorem jX8_mends_L91 {p : Program} {l : Launch} {e : Env} {R : Room} {s : State} {m : MethodId} {args : Array Value} {below : List Frame} {meth : Method} {c : Code} {g : dk_G} (C : dk_C p l e R s m args below meth c g cX8_mends "DuckWalk" 9 (some .int)) (hR : R = { frames := 5, cells := 0, slots := 0, locals := 111 }) (x7 : Int32)   : ∀ (n : Nat) (x8 : Int32) (S : dk_S), dk_J p l e R s m args below meth c g 9 dk_qi 91 [(6, .ref (g.1 17)), (7, .int x7), (8, .int x8)] [] S (fX8_mends_L91 x7 n x8 S) some := by
  subst hR
  intro n
  induction n with
  | zero =>
    intro x8 S
    exact dj_none
  | succ n ih =>
    intro x8 S
    rw [fX8_mends_L91]
    refine dj_iload C 2 rfl dX8_mends_91 ?_
    refine dj_sipush C dX8_mends_93 dc_sipush_400 ?_
    refine dj_icmp_gt (tgt := 126) C dX8_mends_96 (by decide) (fun c11 => ?_) (fun c11 => ?_)
    · refine dj_bipush C dX8_mends_126 dc_bipush_m9 ?_
      exact dj_iret C dX8_mends_128
    · refine dj_aload C 0 rfl dX8_mends_99 ?_
      refine dj_callVi (t := 0) (As := []) C dw_X8_248 ⟨_, _, rfl⟩ (by decide) dz_17 (ct_X0_stride l g 17 S dz_17) ⟨Nat.le_of_ble_eq_true rfl, Nat.le_of_ble_eq_true rfl⟩ rfl (Nat.le_of_ble_eq_true rfl) rfl dX8_mends_101 (fun r12 => ?_)
      refine dj_if_eq (tgt := 126) C dX8_mends_104 (by decide) (fun c13 => ?_) (fun c13 => ?_)
      · refine dj_bipush C dX8_mends_126 dc_bipush_m9 ?_
        exact dj_iret C dX8_mends_128
      · refine dj_aload C 0 rfl dX8_mends_107 ?_
        refine dj_geti C dl_X8_251 rfl dz_17 dX8_mends_109 ?_
        refine dj_iload C 1 rfl dX8_mends_112 ?_
        refine dj_icmp_ne (tgt := 120) C dX8_mends_114 (by decide) (fun c14 => ?_) (fun c14 => ?_)
        · refine dj_iinc (lv2 := [(6, .ref (g.1 17)), (7, .int x7), (8, .int (x8 + 1))]) C 2 rfl [1, 2, 0] dX8_mends_120 dc_iconst_1 (by decide) rfl ?_
          refine dj_goto (tgt := 91) C dX8_mends_123 (by decide) ?_
          exact ih (x8 + 1) r12.2
        · refine dj_iload C 2 rfl dX8_mends_117 ?_
          exact dj_iret C dX8_mends_119
set_option maxRecDepth 100000 in
set_option maxHeartbeats 4000000 in
theorem ct_X8_mends (l : Launch) (g : dk_G) (x1 : Int32) (x2 : Int32) (x3 : Int32) (x4 : Int32) (x5 : Int32) (S : dk_S)  : dk_M l g yX8_mends cX8_mends 9 (some .int) 5 111 [.ref (g.1 0), .int x1, .int x2, .int x3, .int x4, .int x5] S (fX8_mends x1 x2 x3 x4 x5 S) dk_qi := by
  refine dk_enter "DuckWalk" (by decide +kernel) rfl (Nat.le_of_ble_eq_true rfl) [(0, .ref (g.1 0)), (1, .int x1), (2, .int x2), (3, .int x3), (4, .int x4), (5, .int x5)] rfl ?_
  intro p e s m args below meth c C
  unfold fX8_mends
  refine dj_iload_n C 1 rfl dX8_mends_0 ?_
  refine dj_iload_n C 2 rfl dX8_mends_1 ?_
  refine dj_iload_n C 3 rfl dX8_mends_2 ?_
  refine dj_iload C 4 rfl dX8_mends_3 ?_
  refine dj_callSi (As := [.int x1, .int x2, .int x3, .int x4]) C dw_X8_229 (ct_X8_noGoing l g x1 x2 x3 x4 S) ⟨Nat.le_of_ble_eq_true rfl, Nat.le_of_ble_eq_true rfl⟩ rfl (Nat.le_of_ble_eq_true rfl) rfl dX8_mends_5 (fun r1 => ?_)
  refine dj_if_ne (tgt := 22) C dX8_mends_8 (by decide) (fun c2 => ?_) (fun c2 => ?_)
  · refine dj_iconst C dX8_mends_22 dc_iconst_m1 ?_
    exact dj_iret C dX8_mends_23
  · refine dj_iload C 5 rfl dX8_mends_11 ?_
    refine dj_iconst C dX8_mends_13 dc_iconst_1 ?_
    refine dj_bipush C dX8_mends_14 dc_bipush_20 ?_
    refine dj_callSi (As := [.int x5, .int 1, .int 20]) C dw_X8_90 (ct_X8_isOutside l g x5 1 20 r1.2) ⟨Nat.le_of_ble_eq_true rfl, Nat.le_of_ble_eq_true rfl⟩ rfl (Nat.le_of_ble_eq_true rfl) rfl dX8_mends_16 (fun r3 => ?_)
    refine dj_if_eq (tgt := 24) C dX8_mends_19 (by decide) (fun c4 => ?_) (fun c4 => ?_)
    · refine dj_aload_n C 0 rfl dX8_mends_24 ?_
      refine dj_iload_n C 1 rfl dX8_mends_25 ?_
      refine dj_iload_n C 2 rfl dX8_mends_26 ?_
      refine dj_callVi (t := 8) (As := [.int x1, .int x2]) C dw_X8_263 ⟨_, _, rfl⟩ (by decide) dz_0 (ct_X8_isReady l g x1 x2 r3.2) ⟨Nat.le_of_ble_eq_true rfl, Nat.le_of_ble_eq_true rfl⟩ rfl (Nat.le_of_ble_eq_true rfl) rfl dX8_mends_27 (fun r5 => ?_)
      refine dj_if_ne (tgt := 39) C dX8_mends_30 (by decide) (fun c6 => ?_) (fun c6 => ?_)
      · refine dj_aload_n C 0 rfl dX8_mends_39 ?_
        refine dj_getr (r := 16) (k2 := 16) C dl_X8_54 rfl dz_0 rfl dX8_mends_40 ?_
        refine dj_iload_n C 3 rfl dX8_mends_43 ?_
        refine dj_iload C 4 rfl dX8_mends_44 ?_
        refine dj_callVi (t := 7) (As := [.int x3, .int x4]) C dw_X8_285 ⟨_, _, rfl⟩ (by decide) dz_16 (ct_X7_walksWell l g x3 x4 r5.2) ⟨Nat.le_of_ble_eq_true rfl, Nat.le_of_ble_eq_true rfl⟩ rfl (Nat.le_of_ble_eq_true rfl) rfl dX8_mends_46 (fun r7 => ?_)
        refine dj_if_ne (tgt := 58) C dX8_mends_49 (by decide) (fun c8 => ?_) (fun c8 => ?_)
        · refine dj_aload_n C 0 rfl dX8_mends_58 ?_
          refine dj_getr (r := 16) (k2 := 16) C dl_X8_54 rfl dz_0 rfl dX8_mends_59 ?_
          refine dj_getr (r := 1) (k2 := 17) C dl_X8_115 rfl dz_16 rfl dX8_mends_62 ?_
          refine dj_astore (lv2 := [(0, .ref (g.1 0)), (3, .int x3), (5, .int x5), (6, .ref (g.1 17))]) C [1, 4, 6, 0] dX8_mends_65 (by decide) rfl ?_
          refine dj_aload_n C 0 rfl dX8_mends_67 ?_
          refine dj_getr (r := 16) (k2 := 16) C dl_X8_54 rfl dz_0 rfl dX8_mends_68 ?_
          refine dj_geti C dl_X8_288 rfl dz_16 dX8_mends_71 ?_
          refine dj_lti (fun y9 => ?_)
          refine dj_istore (lv2 := [(3, .int x3), (5, .int x5), (6, .ref (g.1 17)), (7, .int y9)]) C [2, 3, 4, 0] dX8_mends_74 (by decide) rfl ?_
          refine dj_aload C 2 rfl dX8_mends_76 ?_
          refine dj_iload_n C 0 rfl dX8_mends_78 ?_
          refine dj_iload C 3 rfl dX8_mends_79 ?_
          refine dj_iload C 1 rfl dX8_mends_81 ?_
          refine dj_iadd C dX8_mends_83 ?_
          refine dj_iconst C dX8_mends_84 dc_iconst_0 ?_
          refine dj_callVv (t := 0) (As := [.int x3, .int (y9 + x5), .int 0]) C dw_X8_233 ⟨_, _, rfl⟩ (by decide) dz_17 (ct_X0_begin l g 17 x3 (y9 + x5) 0 r7.2 dz_17) ⟨Nat.le_of_ble_eq_true rfl, Nat.le_of_ble_eq_true rfl⟩ rfl (Nat.le_of_ble_eq_true rfl) rfl dX8_mends_85 (fun r10 => ?_)
          refine dj_iconst C dX8_mends_88 dc_iconst_1 ?_
          refine dj_istore (lv2 := [(6, .ref (g.1 17)), (7, .int y9), (8, .int 1)]) C [3, 4, 0] dX8_mends_89 (by decide) rfl ?_
          refine jX8_mends_L91 C rfl y9 dk_FU 1 r10
        · refine dj_aload_n C 0 rfl dX8_mends_52 ?_
          refine dj_iconst C dX8_mends_53 dc_iconst_3 ?_
          refine dj_callVi (t := 8) (As := [.int 3]) C dw_X8_150 ⟨_, _, rfl⟩ (by decide) dz_0 (ct_X8_found l g 3 r7.2) ⟨Nat.le_of_ble_eq_true rfl, Nat.le_of_ble_eq_true rfl⟩ rfl (Nat.le_of_ble_eq_true rfl) rfl dX8_mends_54 (fun r15 => ?_)
          exact dj_iret C dX8_mends_57
      · refine dj_aload_n C 0 rfl dX8_mends_33 ?_
        refine dj_iconst C dX8_mends_34 dc_iconst_1 ?_
        refine dj_callVi (t := 8) (As := [.int 1]) C dw_X8_150 ⟨_, _, rfl⟩ (by decide) dz_0 (ct_X8_found l g 1 r5.2) ⟨Nat.le_of_ble_eq_true rfl, Nat.le_of_ble_eq_true rfl⟩ rfl (Nat.le_of_ble_eq_true rfl) rfl dX8_mends_35 (fun r16 => ?_)
        exact dj_iret C dX8_mends_38
    · refine dj_iconst C dX8_mends_22 dc_iconst_m1 ?_
      exact dj_iret C dX8_mends_23
noncomputable def fX8_wide_L45 (x3 : Int32) (x6 : Int32) (kx123 : (Int32 × Int32 × dk_S) → Option (Int32 × dk_S)) : Nat → Int32 → Int32 → Int32 → dk_S → Option (Int32 × dk_S)
  | 0, _, _, _, _ => none
  | n + 1, x4, x5, x7, S => if 9 < x7 then kx123 (x4, x5, S) else dk_lt (dk_si S 19 1 x6) (fun S9 => dk_lt (dk_si S9 19 2 x7) (fun S10 => (fX7_span x3 S10).bind (fun r11 => dk_lt (fun t12 : Int32 × Int32 × dk_S => (fX8_wide_L45 x3 x6 kx123 n t12.1 t12.2.1 (x7 + 1) t12.2.2 : Option (Int32 × dk_S))) (fun k13 => if r11.1 ≤ x4 then k13 (x4, x5, r11.2) else dk_lt ((10 * x6) + x7) (fun y15 : Int32 => k13 (r11.1, y15, r11.2))))))
noncomputable def fX8_wide_L35 (x3 : Int32) : Nat → Int32 → Int32 → Int32 → dk_S → Option (Int32 × dk_S)
  | 0, _, _, _, _ => none
  | n + 1, x4, x5, x6, S => if 9 < x6 then (fX8_tell x4 S).bind (fun r6 => some (x5, r6.2)) else fX8_wide_L45 x3 x6 (fun t7 : Int32 × Int32 × dk_S => fX8_wide_L35 x3 n t7.1 t7.2.1 (x6 + 1) t7.2.2) dk_FU x4 x5 1 S
noncomputable def fX8_wide (x1 : Int32) (x2 : Int32) (x3 : Int32) (S : dk_S) : Option (Int32 × dk_S) := (fX8_noPair x1 x2 x3 S).bind (fun r1 => if r1.1 = 0 then (fX8_isReady x1 x2 r1.2).bind (fun r3 => if r3.1 = 0 then (fX8_found 1 r3.2).bind (fun r16 => some (r16.1, r16.2)) else fX8_wide_L35 x3 dk_FU (-1) 0 1 r3.2) else some ((-1), r1.2))
set_option maxRecDepth 100000 in
set_option maxHeartbeats 4000000 in
theorem jX8_wide_L45 {p : Program} {l : Launch} {e : Env} {R : Room} {s : State} {m : MethodId} {args : Array Value} {below : List Frame} {meth : Method} {c : Code} {g : dk_G} (C : dk_C p l e R s m args below meth c g cX8_wide "DuckWalk" 9 (some .int)) (hR : R = { frames := 6, cells := 0, slots := 0, locals := 134 }) (x3 : Int32) (x6 : Int32) (kx123 : (Int32 × Int32 × dk_S) → Option (Int32 × dk_S))  (hkx123 : ∀ t : Int32 × Int32 × dk_S, dk_J p l e R s m args below meth c g 9 dk_qi 123 [(0, .ref (g.1 0)), (3, .int x3), (4, .int t.1), (5, .int t.2.1), (6, .int x6)] [] t.2.2 (kx123 t) some) : ∀ (n : Nat) (x4 : Int32) (x5 : Int32) (x7 : Int32) (S : dk_S), dk_J p l e R s m args below meth c g 9 dk_qi 45 [(0, .ref (g.1 0)), (3, .int x3), (4, .int x4), (5, .int x5), (6, .int x6), (7, .int x7)] [] S (fX8_wide_L45 x3 x6 kx123 n x4 x5 x7 S) some := by
  subst hR
  intro n
  induction n with
  | zero =>
    intro x4 x5 x7 S
    exact dj_none
  | succ n ih =>
    intro x4 x5 x7 S
    rw [fX8_wide_L45]
    refine dj_iload C 5 rfl dX8_wide_45 ?_
    refine dj_bipush C dX8_wide_47 dc_bipush_9 ?_
    refine dj_icmp_gt (tgt := 123) C dX8_wide_49 (by decide) (fun c8 => ?_) (fun c8 => ?_)
    · refine dj_sub (lv2 := [(0, .ref (g.1 0)), (3, .int x3), (4, .int x4), (5, .int x5), (6, .int x6)]) [0, 1, 2, 3, 4] rfl ?_
      exact hkx123 (x4, x5, S)
    · refine dj_aload_n C 0 rfl dX8_wide_52 ?_
      refine dj_getr (r := 16) (k2 := 16) C dl_X8_54 rfl dz_0 rfl dX8_wide_53 ?_
      refine dj_getr (r := 1) (k2 := 17) C dl_X8_115 rfl dz_16 rfl dX8_wide_56 ?_
      refine dj_getr (r := 1) (k2 := 18) C dl_X8_116 rfl dz_17 rfl dX8_wide_59 ?_
      refine dj_getr (r := 1) (k2 := 19) C dl_X8_226 rfl dz_18 rfl dX8_wide_62 ?_
      refine dj_iconst C dX8_wide_65 dc_iconst_1 ?_
      refine dj_iload C 4 rfl dX8_wide_66 ?_
      refine dj_iastn (n := 6) (j := 1) C dz_19 (by decide) (by decide) (by decide) dX8_wide_68 (fun S9 => ?_)
      refine dj_aload_n C 0 rfl dX8_wide_69 ?_
      refine dj_getr (r := 16) (k2 := 16) C dl_X8_54 rfl dz_0 rfl dX8_wide_70 ?_
      refine dj_getr (r := 1) (k2 := 17) C dl_X8_115 rfl dz_16 rfl dX8_wide_73 ?_
      refine dj_getr (r := 1) (k2 := 18) C dl_X8_116 rfl dz_17 rfl dX8_wide_76 ?_
      refine dj_getr (r := 1) (k2 := 19) C dl_X8_226 rfl dz_18 rfl dX8_wide_79 ?_
      refine dj_iconst C dX8_wide_82 dc_iconst_2 ?_
      refine dj_iload C 5 rfl dX8_wide_83 ?_
      refine dj_iastn (n := 6) (j := 2) C dz_19 (by decide) (by decide) (by decide) dX8_wide_85 (fun S10 => ?_)
      refine dj_aload_n C 0 rfl dX8_wide_86 ?_
      refine dj_getr (r := 16) (k2 := 16) C dl_X8_54 rfl dz_0 rfl dX8_wide_87 ?_
      refine dj_iload_n C 1 rfl dX8_wide_90 ?_
      refine dj_callVi (t := 7) (As := [.int x3]) C dw_X8_291 ⟨_, _, rfl⟩ (by decide) dz_16 (ct_X7_span l g x3 S10) ⟨Nat.le_of_ble_eq_true rfl, Nat.le_of_ble_eq_true rfl⟩ rfl (Nat.le_of_ble_eq_true rfl) rfl dX8_wide_91 (fun r11 => ?_)
      refine dj_istore (lv2 := [(0, .ref (g.1 0)), (3, .int x3), (4, .int x4), (5, .int x5), (6, .int x6), (7, .int x7), (8, .int r11.1)]) C [1, 2, 3, 4, 5, 6, 0] dX8_wide_94 (by decide) rfl ?_
      refine dj_iload C 6 rfl dX8_wide_96 ?_
      refine dj_iload C 2 rfl dX8_wide_98 ?_
      refine dj_join 117 (fun t12 : Int32 × Int32 × dk_S => [(0, .ref (g.1 0)), (3, .int x3), (4, .int t12.1), (5, .int t12.2.1), (6, .int x6), (7, .int x7)]) (fun t12 : Int32 × Int32 × dk_S => []) (fun t12 : Int32 × Int32 × dk_S => t12.2.2) (fun t12 => ?_) (fun k13 hk13 => ?_)
      · refine dj_iinc (lv2 := [(0, .ref (g.1 0)), (3, .int x3), (4, .int t12.1), (5, .int t12.2.1), (6, .int x6), (7, .int (x7 + 1))]) C 5 rfl [1, 2, 3, 4, 5, 0] dX8_wide_117 dc_iconst_1 (by decide) rfl ?_
        refine dj_goto (tgt := 45) C dX8_wide_120 (by decide) ?_
        exact ih t12.1 t12.2.1 (x7 + 1) t12.2.2
      · refine dj_icmp_le (tgt := 117) C dX8_wide_100 (by decide) (fun c14 => ?_) (fun c14 => ?_)
        · refine dj_sub (lv2 := [(0, .ref (g.1 0)), (3, .int x3), (4, .int x4), (5, .int x5), (6, .int x6), (7, .int x7)]) [0, 1, 2, 3, 4, 5] rfl ?_
          exact hk13 (x4, x5, r11.2)
        · refine dj_iload C 6 rfl dX8_wide_103 ?_
          refine dj_istore (lv2 := [(0, .ref (g.1 0)), (3, .int x3), (4, .int r11.1), (6, .int x6), (7, .int x7)]) C [1, 2, 0, 4, 5] dX8_wide_105 (by decide) rfl ?_
          refine dj_bipush C dX8_wide_107 dc_bipush_10 ?_
          refine dj_iload C 3 rfl dX8_wide_109 ?_
          refine dj_imul C dX8_wide_111 ?_
          refine dj_iload C 4 rfl dX8_wide_112 ?_
          refine dj_iadd C dX8_wide_114 ?_
          refine dj_lti (fun y15 => ?_)
          refine dj_istore (lv2 := [(0, .ref (g.1 0)), (3, .int x3), (4, .int r11.1), (5, .int y15), (6, .int x6), (7, .int x7)]) C [1, 2, 3, 0, 4, 5] dX8_wide_115 (by decide) rfl ?_
          exact hk13 (r11.1, y15, r11.2)
set_option maxRecDepth 100000 in
set_option maxHeartbeats 4000000 in
theorem jX8_wide_L35 {p : Program} {l : Launch} {e : Env} {R : Room} {s : State} {m : MethodId} {args : Array Value} {below : List Frame} {meth : Method} {c : Code} {g : dk_G} (C : dk_C p l e R s m args below meth c g cX8_wide "DuckWalk" 9 (some .int)) (hR : R = { frames := 6, cells := 0, slots := 0, locals := 134 }) (x3 : Int32)   : ∀ (n : Nat) (x4 : Int32) (x5 : Int32) (x6 : Int32) (S : dk_S), dk_J p l e R s m args below meth c g 9 dk_qi 35 [(0, .ref (g.1 0)), (3, .int x3), (4, .int x4), (5, .int x5), (6, .int x6)] [] S (fX8_wide_L35 x3 n x4 x5 x6 S) some := by
  subst hR
  intro n
  induction n with
  | zero =>
    intro x4 x5 x6 S
    exact dj_none
  | succ n ih =>
    intro x4 x5 x6 S
    rw [fX8_wide_L35]
    refine dj_iload C 4 rfl dX8_wide_35 ?_
    refine dj_bipush C dX8_wide_37 dc_bipush_9 ?_
    refine dj_icmp_gt (tgt := 129) C dX8_wide_39 (by decide) (fun c5 => ?_) (fun c5 => ?_)
    · refine dj_aload_n C 0 rfl dX8_wide_129 ?_
      refine dj_iload C 2 rfl dX8_wide_130 ?_
      refine dj_callVi (t := 8) (As := [.int x4]) C dw_X8_167 ⟨_, _, rfl⟩ (by decide) dz_0 (ct_X8_tell l g x4 S) ⟨Nat.le_of_ble_eq_true rfl, Nat.le_of_ble_eq_true rfl⟩ rfl (Nat.le_of_ble_eq_true rfl) rfl dX8_wide_132 (fun r6 => ?_)
      refine dj_pop C dX8_wide_135 rfl ?_
      refine dj_iload C 3 rfl dX8_wide_136 ?_
      exact dj_iret C dX8_wide_138
    · refine dj_iconst C dX8_wide_42 dc_iconst_1 ?_
      refine dj_istore (lv2 := [(0, .ref (g.1 0)), (3, .int x3), (4, .int x4), (5, .int x5), (6, .int x6), (7, .int 1)]) C [1, 2, 3, 4, 5, 0] dX8_wide_43 (by decide) rfl ?_
      refine jX8_wide_L45 C rfl x3 x6 _ (fun t7 => ?_) dk_FU x4 x5 1 S
      · refine dj_iinc (lv2 := [(0, .ref (g.1 0)), (3, .int x3), (4, .int t7.1), (5, .int t7.2.1), (6, .int (x6 + 1))]) C 4 rfl [1, 2, 3, 4, 0] dX8_wide_123 dc_iconst_1 (by decide) rfl ?_
        refine dj_goto (tgt := 35) C dX8_wide_126 (by decide) ?_
        exact ih t7.1 t7.2.1 (x6 + 1) t7.2.2
set_option maxRecDepth 100000 in
set_option maxHeartbeats 4000000 in
theorem ct_X8_wide (l : Launch) (g : dk_G) (x1 : Int32) (x2 : Int32) (x3 : Int32) (S : dk_S)  : dk_M l g yX8_wide cX8_wide 9 (some .int) 6 134 [.ref (g.1 0), .int x1, .int x2, .int x3] S (fX8_wide x1 x2 x3 S) dk_qi := by
  refine dk_enter "DuckWalk" (by decide +kernel) rfl (Nat.le_of_ble_eq_true rfl) [(0, .ref (g.1 0)), (1, .int x1), (2, .int x2), (3, .int x3)] rfl ?_
  intro p e s m args below meth c C
  unfold fX8_wide
  refine dj_iload_n C 1 rfl dX8_wide_0 ?_
  refine dj_iload_n C 2 rfl dX8_wide_1 ?_
  refine dj_iload_n C 3 rfl dX8_wide_2 ?_
  refine dj_callSi (As := [.int x1, .int x2, .int x3]) C dw_X8_104 (ct_X8_noPair l g x1 x2 x3 S) ⟨Nat.le_of_ble_eq_true rfl, Nat.le_of_ble_eq_true rfl⟩ rfl (Nat.le_of_ble_eq_true rfl) rfl dX8_wide_3 (fun r1 => ?_)
  refine dj_if_eq (tgt := 11) C dX8_wide_6 (by decide) (fun c2 => ?_) (fun c2 => ?_)
  · refine dj_aload_n C 0 rfl dX8_wide_11 ?_
    refine dj_iload_n C 1 rfl dX8_wide_12 ?_
    refine dj_iload_n C 2 rfl dX8_wide_13 ?_
    refine dj_callVi (t := 8) (As := [.int x1, .int x2]) C dw_X8_263 ⟨_, _, rfl⟩ (by decide) dz_0 (ct_X8_isReady l g x1 x2 r1.2) ⟨Nat.le_of_ble_eq_true rfl, Nat.le_of_ble_eq_true rfl⟩ rfl (Nat.le_of_ble_eq_true rfl) rfl dX8_wide_14 (fun r3 => ?_)
    refine dj_if_ne (tgt := 26) C dX8_wide_17 (by decide) (fun c4 => ?_) (fun c4 => ?_)
    · refine dj_iconst C dX8_wide_26 dc_iconst_m1 ?_
      refine dj_istore (lv2 := [(0, .ref (g.1 0)), (3, .int x3), (4, .int (-1))]) C [1, 4, 0] dX8_wide_27 (by decide) rfl ?_
      refine dj_iconst C dX8_wide_29 dc_iconst_0 ?_
      refine dj_istore (lv2 := [(0, .ref (g.1 0)), (3, .int x3), (4, .int (-1)), (5, .int 0)]) C [1, 2, 3, 0] dX8_wide_30 (by decide) rfl ?_
      refine dj_iconst C dX8_wide_32 dc_iconst_1 ?_
      refine dj_istore (lv2 := [(0, .ref (g.1 0)), (3, .int x3), (4, .int (-1)), (5, .int 0), (6, .int 1)]) C [1, 2, 3, 4, 0] dX8_wide_33 (by decide) rfl ?_
      refine jX8_wide_L35 C rfl x3 dk_FU (-1) 0 1 r3.2
    · refine dj_aload_n C 0 rfl dX8_wide_20 ?_
      refine dj_iconst C dX8_wide_21 dc_iconst_1 ?_
      refine dj_callVi (t := 8) (As := [.int 1]) C dw_X8_150 ⟨_, _, rfl⟩ (by decide) dz_0 (ct_X8_found l g 1 r3.2) ⟨Nat.le_of_ble_eq_true rfl, Nat.le_of_ble_eq_true rfl⟩ rfl (Nat.le_of_ble_eq_true rfl) rfl dX8_wide_22 (fun r16 => ?_)
      exact dj_iret C dX8_wide_25
  · refine dj_iconst C dX8_wide_9 dc_iconst_m1 ?_
    exact dj_iret C dX8_wide_10
noncomputable def fX8_mend_L49 (x3 : Int32) (x4 : Int32) (x5 : Int32) (kx111 : (Int32 × dk_S) → Option (Int32 × dk_S)) (kx141 : dk_S → Option (Int32 × dk_S)) : Nat → Int32 → dk_S → Option (Int32 × dk_S)
  | 0, _, _ => none
  | n + 1, x6, S => (fJ9_min_7cf53 9 x5 S).bind (fun r11 => if r11.1 < x6 then kx141 r11.2 else dk_lt (dk_si r11.2 19 4 x6) (fun S13 => dk_lt (dk_si S13 19 5 (x5 - x6)) (fun S14 => (fX7_walksWell x3 x4 S14).bind (fun r15 => if r15.1 = 0 then fX8_mend_L49 x3 x4 x5 kx111 kx141 n (x6 + 1) r15.2 else kx111 (x6, r15.2)))))
noncomputable def fX8_mend_L31 (x3 : Int32) (x4 : Int32) (kx111 : (Int32 × Int32 × dk_S) → Option (Int32 × dk_S)) : Nat → Int32 → dk_S → Option (Int32 × dk_S)
  | 0, _, _ => none
  | n + 1, x5, S => if 18 < x5 then some ((-9), S) else (fJ9_max_7cf53 0 (x5 - 9) S).bind (fun r8 => fX8_mend_L49 x3 x4 x5 (fun t9 : Int32 × dk_S => kx111 (x5, t9.1, t9.2)) (fun t10 : dk_S => fX8_mend_L31 x3 x4 kx111 n (x5 + 1) t10) dk_FU r8.1 r8.2)
noncomputable def fX8_mend (x1 : Int32) (x2 : Int32) (x3 : Int32) (x4 : Int32) (S : dk_S) : Option (Int32 × dk_S) := (fX8_noGoing x1 x2 x3 x4 S).bind (fun r1 => if r1.1 = 0 then (fX8_isReady x1 x2 r1.2).bind (fun r3 => if r3.1 = 0 then (fX8_found 1 r3.2).bind (fun r17 => some (r17.1, r17.2)) else fX8_mend_L31 x3 x4 (fun t5 : Int32 × Int32 × dk_S => (fX8_tell (t5.2.2.1 16 3) t5.2.2).bind (fun r6 => some (((10 * t5.2.1) + t5.1) - t5.2.1, r6.2))) dk_FU 0 r3.2) else some ((-1), r1.2))
set_option maxRecDepth 100000 in
set_option maxHeartbeats 4000000 in
theorem jX8_mend_L49 {p : Program} {l : Launch} {e : Env} {R : Room} {s : State} {m : MethodId} {args : Array Value} {below : List Frame} {meth : Method} {c : Code} {g : dk_G} (C : dk_C p l e R s m args below meth c g cX8_mend "DuckWalk" 7 (some .int)) (hR : R = { frames := 5, cells := 0, slots := 0, locals := 111 }) (x3 : Int32) (x4 : Int32) (x5 : Int32) (kx111 : (Int32 × dk_S) → Option (Int32 × dk_S)) (kx141 : dk_S → Option (Int32 × dk_S))  (hkx111 : ∀ t : Int32 × dk_S, dk_J p l e R s m args below meth c g 7 dk_qi 111 [(0, .ref (g.1 0)), (5, .int x5), (6, .int t.1)] [] t.2 (kx111 t) some) (hkx141 : ∀ t : dk_S, dk_J p l e R s m args below meth c g 7 dk_qi 141 [(0, .ref (g.1 0)), (3, .int x3), (4, .int x4), (5, .int x5)] [] t (kx141 t) some) : ∀ (n : Nat) (x6 : Int32) (S : dk_S), dk_J p l e R s m args below meth c g 7 dk_qi 49 [(0, .ref (g.1 0)), (3, .int x3), (4, .int x4), (5, .int x5), (6, .int x6)] [] S (fX8_mend_L49 x3 x4 x5 kx111 kx141 n x6 S) some := by
  subst hR
  intro n
  induction n with
  | zero =>
    intro x6 S
    exact dj_none
  | succ n ih =>
    intro x6 S
    rw [fX8_mend_L49]
    refine dj_iload C 4 rfl dX8_mend_49 ?_
    refine dj_bipush C dX8_mend_51 dc_bipush_9 ?_
    refine dj_iload C 3 rfl dX8_mend_53 ?_
    refine dj_callSi (As := [.int 9, .int x5]) C dw_X8_294 (ct_J9_min_7cf53 l g 9 x5 S) ⟨Nat.le_of_ble_eq_true rfl, Nat.le_of_ble_eq_true rfl⟩ rfl (Nat.le_of_ble_eq_true rfl) rfl dX8_mend_55 (fun r11 => ?_)
    refine dj_icmp_gt (tgt := 141) C dX8_mend_58 (by decide) (fun c12 => ?_) (fun c12 => ?_)
    · refine dj_sub (lv2 := [(0, .ref (g.1 0)), (3, .int x3), (4, .int x4), (5, .int x5)]) [0, 1, 2, 3] rfl ?_
      exact hkx141 r11.2
    · refine dj_aload_n C 0 rfl dX8_mend_61 ?_
      refine dj_getr (r := 16) (k2 := 16) C dl_X8_54 rfl dz_0 rfl dX8_mend_62 ?_
      refine dj_getr (r := 1) (k2 := 17) C dl_X8_115 rfl dz_16 rfl dX8_mend_65 ?_
      refine dj_getr (r := 1) (k2 := 18) C dl_X8_116 rfl dz_17 rfl dX8_mend_68 ?_
      refine dj_getr (r := 1) (k2 := 19) C dl_X8_226 rfl dz_18 rfl dX8_mend_71 ?_
      refine dj_iconst C dX8_mend_74 dc_iconst_4 ?_
      refine dj_iload C 4 rfl dX8_mend_75 ?_
      refine dj_iastn (n := 6) (j := 4) C dz_19 (by decide) (by decide) (by decide) dX8_mend_77 (fun S13 => ?_)
      refine dj_aload_n C 0 rfl dX8_mend_78 ?_
      refine dj_getr (r := 16) (k2 := 16) C dl_X8_54 rfl dz_0 rfl dX8_mend_79 ?_
      refine dj_getr (r := 1) (k2 := 17) C dl_X8_115 rfl dz_16 rfl dX8_mend_82 ?_
      refine dj_getr (r := 1) (k2 := 18) C dl_X8_116 rfl dz_17 rfl dX8_mend_85 ?_
      refine dj_getr (r := 1) (k2 := 19) C dl_X8_226 rfl dz_18 rfl dX8_mend_88 ?_
      refine dj_iconst C dX8_mend_91 dc_iconst_5 ?_
      refine dj_iload C 3 rfl dX8_mend_92 ?_
      refine dj_iload C 4 rfl dX8_mend_94 ?_
      refine dj_isub C dX8_mend_96 ?_
      refine dj_iastn (n := 6) (j := 5) C dz_19 (by decide) (by decide) (by decide) dX8_mend_97 (fun S14 => ?_)
      refine dj_aload_n C 0 rfl dX8_mend_98 ?_
      refine dj_getr (r := 16) (k2 := 16) C dl_X8_54 rfl dz_0 rfl dX8_mend_99 ?_
      refine dj_iload_n C 1 rfl dX8_mend_102 ?_
      refine dj_iload C 2 rfl dX8_mend_103 ?_
      refine dj_callVi (t := 7) (As := [.int x3, .int x4]) C dw_X8_285 ⟨_, _, rfl⟩ (by decide) dz_16 (ct_X7_walksWell l g x3 x4 S14) ⟨Nat.le_of_ble_eq_true rfl, Nat.le_of_ble_eq_true rfl⟩ rfl (Nat.le_of_ble_eq_true rfl) rfl dX8_mend_105 (fun r15 => ?_)
      refine dj_if_eq (tgt := 135) C dX8_mend_108 (by decide) (fun c16 => ?_) (fun c16 => ?_)
      · refine dj_iinc (lv2 := [(0, .ref (g.1 0)), (3, .int x3), (4, .int x4), (5, .int x5), (6, .int (x6 + 1))]) C 4 rfl [1, 2, 3, 4, 0] dX8_mend_135 dc_iconst_1 (by decide) rfl ?_
        refine dj_goto (tgt := 49) C dX8_mend_138 (by decide) ?_
        exact ih (x6 + 1) r15.2
      · refine dj_sub (lv2 := [(0, .ref (g.1 0)), (5, .int x5), (6, .int x6)]) [0, 3, 4] rfl ?_
        exact hkx111 (x6, r15.2)
set_option maxRecDepth 100000 in
set_option maxHeartbeats 4000000 in
theorem jX8_mend_L31 {p : Program} {l : Launch} {e : Env} {R : Room} {s : State} {m : MethodId} {args : Array Value} {below : List Frame} {meth : Method} {c : Code} {g : dk_G} (C : dk_C p l e R s m args below meth c g cX8_mend "DuckWalk" 7 (some .int)) (hR : R = { frames := 5, cells := 0, slots := 0, locals := 111 }) (x3 : Int32) (x4 : Int32) (kx111 : (Int32 × Int32 × dk_S) → Option (Int32 × dk_S))  (hkx111 : ∀ t : Int32 × Int32 × dk_S, dk_J p l e R s m args below meth c g 7 dk_qi 111 [(0, .ref (g.1 0)), (5, .int t.1), (6, .int t.2.1)] [] t.2.2 (kx111 t) some) : ∀ (n : Nat) (x5 : Int32) (S : dk_S), dk_J p l e R s m args below meth c g 7 dk_qi 31 [(0, .ref (g.1 0)), (3, .int x3), (4, .int x4), (5, .int x5)] [] S (fX8_mend_L31 x3 x4 kx111 n x5 S) some := by
  subst hR
  intro n
  induction n with
  | zero =>
    intro x5 S
    exact dj_none
  | succ n ih =>
    intro x5 S
    rw [fX8_mend_L31]
    refine dj_iload C 3 rfl dX8_mend_31 ?_
    refine dj_bipush C dX8_mend_33 dc_bipush_18 ?_
    refine dj_icmp_gt (tgt := 147) C dX8_mend_35 (by decide) (fun c7 => ?_) (fun c7 => ?_)
    · refine dj_bipush C dX8_mend_147 dc_bipush_m9 ?_
      exact dj_iret C dX8_mend_149
    · refine dj_iconst C dX8_mend_38 dc_iconst_0 ?_
      refine dj_iload C 3 rfl dX8_mend_39 ?_
      refine dj_bipush C dX8_mend_41 dc_bipush_9 ?_
      refine dj_isub C dX8_mend_43 ?_
      refine dj_callSi (As := [.int 0, .int (x5 - 9)]) C dw_X8_138 (ct_J9_max_7cf53 l g 0 (x5 - 9) S) ⟨Nat.le_of_ble_eq_true rfl, Nat.le_of_ble_eq_true rfl⟩ rfl (Nat.le_of_ble_eq_true rfl) rfl dX8_mend_44 (fun r8 => ?_)
      refine dj_istore (lv2 := [(0, .ref (g.1 0)), (3, .int x3), (4, .int x4), (5, .int x5), (6, .int r8.1)]) C [1, 2, 3, 4, 0] dX8_mend_47 (by decide) rfl ?_
      refine jX8_mend_L49 C rfl x3 x4 x5 _ _ (fun t9 => ?_) (fun t10 => ?_) dk_FU r8.1 r8.2
      · exact hkx111 (x5, t9.1, t9.2)
      · refine dj_iinc (lv2 := [(0, .ref (g.1 0)), (3, .int x3), (4, .int x4), (5, .int (x5 + 1))]) C 3 rfl [1, 2, 3, 0] dX8_mend_141 dc_iconst_1 (by decide) rfl ?_
        refine dj_goto (tgt := 31) C dX8_mend_144 (by decide) ?_
        exact ih (x5 + 1) t10
set_option maxRecDepth 100000 in
set_option maxHeartbeats 4000000 in
theorem ct_X8_mend (l : Launch) (g : dk_G) (x1 : Int32) (x2 : Int32) (x3 : Int32) (x4 : Int32) (S : dk_S)  : dk_M l g yX8_mend cX8_mend 7 (some .int) 5 111 [.ref (g.1 0), .int x1, .int x2, .int x3, .int x4] S (fX8_mend x1 x2 x3 x4 S) dk_qi := by
  refine dk_enter "DuckWalk" (by decide +kernel) rfl (Nat.le_of_ble_eq_true rfl) [(0, .ref (g.1 0)), (1, .int x1), (2, .int x2), (3, .int x3), (4, .int x4)] rfl ?_
  intro p e s m args below meth c C
  unfold fX8_mend
  refine dj_iload_n C 1 rfl dX8_mend_0 ?_
  refine dj_iload_n C 2 rfl dX8_mend_1 ?_
  refine dj_iload_n C 3 rfl dX8_mend_2 ?_
  refine dj_iload C 4 rfl dX8_mend_3 ?_
  refine dj_callSi (As := [.int x1, .int x2, .int x3, .int x4]) C dw_X8_229 (ct_X8_noGoing l g x1 x2 x3 x4 S) ⟨Nat.le_of_ble_eq_true rfl, Nat.le_of_ble_eq_true rfl⟩ rfl (Nat.le_of_ble_eq_true rfl) rfl dX8_mend_5 (fun r1 => ?_)
  refine dj_if_eq (tgt := 13) C dX8_mend_8 (by decide) (fun c2 => ?_) (fun c2 => ?_)
  · refine dj_aload_n C 0 rfl dX8_mend_13 ?_
    refine dj_iload_n C 1 rfl dX8_mend_14 ?_
    refine dj_iload_n C 2 rfl dX8_mend_15 ?_
    refine dj_callVi (t := 8) (As := [.int x1, .int x2]) C dw_X8_263 ⟨_, _, rfl⟩ (by decide) dz_0 (ct_X8_isReady l g x1 x2 r1.2) ⟨Nat.le_of_ble_eq_true rfl, Nat.le_of_ble_eq_true rfl⟩ rfl (Nat.le_of_ble_eq_true rfl) rfl dX8_mend_16 (fun r3 => ?_)
    refine dj_if_ne (tgt := 28) C dX8_mend_19 (by decide) (fun c4 => ?_) (fun c4 => ?_)
    · refine dj_iconst C dX8_mend_28 dc_iconst_0 ?_
      refine dj_istore (lv2 := [(0, .ref (g.1 0)), (3, .int x3), (4, .int x4), (5, .int 0)]) C [1, 4, 5, 0] dX8_mend_29 (by decide) rfl ?_
      refine jX8_mend_L31 C rfl x3 x4 _ (fun t5 => ?_) dk_FU 0 r3.2
      · refine dj_aload_n C 0 rfl dX8_mend_111 ?_
        refine dj_aload_n C 0 rfl dX8_mend_112 ?_
        refine dj_getr (r := 16) (k2 := 16) C dl_X8_54 rfl dz_0 rfl dX8_mend_113 ?_
        refine dj_geti C dl_X8_288 rfl dz_16 dX8_mend_116 ?_
        refine dj_callVi (t := 8) (As := [.int (t5.2.2.1 16 3)]) C dw_X8_167 ⟨_, _, rfl⟩ (by decide) dz_0 (ct_X8_tell l g (t5.2.2.1 16 3) t5.2.2) ⟨Nat.le_of_ble_eq_true rfl, Nat.le_of_ble_eq_true rfl⟩ rfl (Nat.le_of_ble_eq_true rfl) rfl dX8_mend_119 (fun r6 => ?_)
        refine dj_pop C dX8_mend_122 rfl ?_
        refine dj_bipush C dX8_mend_123 dc_bipush_10 ?_
        refine dj_iload C 2 rfl dX8_mend_125 ?_
        refine dj_imul C dX8_mend_127 ?_
        refine dj_iload C 1 rfl dX8_mend_128 ?_
        refine dj_iadd C dX8_mend_130 ?_
        refine dj_iload C 2 rfl dX8_mend_131 ?_
        refine dj_isub C dX8_mend_133 ?_
        exact dj_iret C dX8_mend_134
    · refine dj_aload_n C 0 rfl dX8_mend_22 ?_
      refine dj_iconst C dX8_mend_23 dc_iconst_1 ?_
      refine dj_callVi (t := 8) (As := [.int 1]) C dw_X8_150 ⟨_, _, rfl⟩ (by decide) dz_0 (ct_X8_found l g 1 r3.2) ⟨Nat.le_of_ble_eq_true rfl, Nat.le_of_ble_eq_true rfl⟩ rfl (Nat.le_of_ble_eq_true rfl) rfl dX8_mend_24 (fun r17 => ?_)
      exact dj_iret C dX8_mend_27
  · refine dj_iconst C dX8_mend_11 dc_iconst_m1 ?_
    exact dj_iret C dX8_mend_12
