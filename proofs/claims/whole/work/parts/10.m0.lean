noncomputable def fX0_begin (k0 : Nat) (x1 : Int32) (x2 : Int32) (x3 : Int32) (S : dk_S) : Option (dk_S) := dk_lt (dk_si S k0 3 x1) (fun S1 => dk_lt (dk_si S1 k0 4 x2) (fun S2 => dk_lt (dk_si S2 k0 5 x3) (fun S3 => dk_lt (dk_si S3 k0 6 0) (fun S4 => dk_lt (dk_si S4 k0 7 0) (fun S5 => dk_lt (dk_si S5 k0 8 0) (fun S6 => dk_lt (dk_si S6 k0 9 0) (fun S7 => some S7)))))))
set_option maxRecDepth 100000 in
set_option maxHeartbeats 4000000 in
theorem ct_X0_begin (l : Launch) (g : dk_G) (k0 : Nat) (x1 : Int32) (x2 : Int32) (x3 : Int32) (S : dk_S) (h0 : dk_kd k0 = 0) : dk_M l g yX0_begin cX0_begin 4 none 0 0 [.ref (g.1 k0), .int x1, .int x2, .int x3] S (fX0_begin k0 x1 x2 x3 S) dk_qv := by
  refine dk_enter "DuckWalk$Course" (by decide +kernel) rfl (Nat.le_of_ble_eq_true rfl) [(0, .ref (g.1 k0)), (1, .int x1), (2, .int x2), (3, .int x3)] rfl ?_
  intro p e s m args below meth c C
  unfold fX0_begin
  refine dj_aload_n C 0 rfl dX0_begin_0 ?_
  refine dj_iload_n C 1 rfl dX0_begin_1 ?_
  refine dj_puti C dl_X0_29 dp_0_3 rfl h0 dX0_begin_2 (fun S1 => ?_)
  refine dj_aload_n C 0 rfl dX0_begin_5 ?_
  refine dj_iload_n C 2 rfl dX0_begin_6 ?_
  refine dj_puti C dl_X0_33 dp_0_4 rfl h0 dX0_begin_7 (fun S2 => ?_)
  refine dj_aload_n C 0 rfl dX0_begin_10 ?_
  refine dj_iload_n C 3 rfl dX0_begin_11 ?_
  refine dj_puti C dl_X0_36 dp_0_5 rfl h0 dX0_begin_12 (fun S3 => ?_)
  refine dj_aload_n C 0 rfl dX0_begin_15 ?_
  refine dj_iconst C dX0_begin_16 dc_iconst_0 ?_
  refine dj_puti C dl_X0_39 dp_0_6 rfl h0 dX0_begin_17 (fun S4 => ?_)
  refine dj_aload_n C 0 rfl dX0_begin_20 ?_
  refine dj_iconst C dX0_begin_21 dc_iconst_0 ?_
  refine dj_puti C dl_X0_42 dp_0_7 rfl h0 dX0_begin_22 (fun S5 => ?_)
  refine dj_aload_n C 0 rfl dX0_begin_25 ?_
  refine dj_iconst C dX0_begin_26 dc_iconst_0 ?_
  refine dj_puti C dl_X0_45 dp_0_8 rfl h0 dX0_begin_27 (fun S6 => ?_)
  refine dj_aload_n C 0 rfl dX0_begin_30 ?_
  refine dj_iconst C dX0_begin_31 dc_iconst_0 ?_
  refine dj_puti C dl_X0_48 dp_0_9 rfl h0 dX0_begin_32 (fun S7 => ?_)
  exact dj_vret C dX0_begin_35
noncomputable def fX1_take (k0 : Nat) (k1 : Nat) (S : dk_S) : Option (dk_S) := dk_gd (dk_cpok 0 0 6 6 6) (dk_lt (dk_sr S (k0 + 1) (va_cpy (S.1 (k1 + 1)) (S.1 (k0 + 1)) (0 : Int32).toNatClampNeg (0 : Int32).toNatClampNeg (6 : Int32).toNatClampNeg)) (fun S1 => dk_lt (dk_si S1 k0 1 (S1.1 k1 1)) (fun S2 => some S2)))
set_option maxRecDepth 100000 in
set_option maxHeartbeats 4000000 in
theorem ct_X1_take (l : Launch) (g : dk_G) (k0 : Nat) (k1 : Nat) (S : dk_S) (h0 : dk_kd k0 = 1) (h1 : dk_kd k1 = 1) : dk_M l g yX1_take cX1_take 2 none 1 18 [.ref (g.1 k0), .ref (g.1 k1)] S (fX1_take k0 k1 S) dk_qv := by
  refine dk_enter "DuckWalk$Duck" (by decide +kernel) rfl (Nat.le_of_ble_eq_true rfl) [(0, .ref (g.1 k0)), (1, .ref (g.1 k1))] rfl ?_
  intro p e s m args below meth c C
  unfold fX1_take
  refine dj_aload_n C 1 rfl dX1_take_0 ?_
  refine dj_getr (r := 1) (k2 := k1 + 1) C dl_X1_9 rfl h1 rfl dX1_take_1 ?_
  refine dj_iconst C dX1_take_4 dc_iconst_0 ?_
  refine dj_aload_n C 0 rfl dX1_take_5 ?_
  refine dj_getr (r := 1) (k2 := k0 + 1) C dl_X1_9 rfl h0 rfl dX1_take_6 ?_
  refine dj_iconst C dX1_take_9 dc_iconst_0 ?_
  refine dj_bipush C dX1_take_10 dc_bipush_6 ?_
  refine dj_copy (n0 := 6) (n1 := 6) C (dk_m2 217 rfl rfl) (dt_1_1 h1) (by decide) (dt_1_1 h0) (by decide) (Nat.le_of_ble_eq_true rfl) (Nat.le_of_ble_eq_true rfl) dX1_take_12 (fun S1 => ?_)
  refine dj_aload_n C 0 rfl dX1_take_15 ?_
  refine dj_aload_n C 1 rfl dX1_take_16 ?_
  refine dj_geti C dl_X1_15 rfl h1 dX1_take_17 ?_
  refine dj_puti C dl_X1_15 dp_1_1 rfl h0 dX1_take_20 (fun S2 => ?_)
  exact dj_vret C dX1_take_23
noncomputable def fX3_take (k0 : Nat) (k1 : Nat) (S : dk_S) : Option (dk_S) := dk_gd (dk_cpok 0 0 100 100 100) (dk_lt (dk_sr S (k0 + 1) (va_cpy (S.1 (k1 + 1)) (S.1 (k0 + 1)) (0 : Int32).toNatClampNeg (0 : Int32).toNatClampNeg (100 : Int32).toNatClampNeg)) (fun S1 => dk_lt (dk_si S1 k0 1 (S1.1 k1 1)) (fun S2 => some S2)))
set_option maxRecDepth 100000 in
set_option maxHeartbeats 4000000 in
theorem ct_X3_take (l : Launch) (g : dk_G) (k0 : Nat) (k1 : Nat) (S : dk_S) (h0 : dk_kd k0 = 3) (h1 : dk_kd k1 = 3) : dk_M l g yX3_take cX3_take 2 none 1 18 [.ref (g.1 k0), .ref (g.1 k1)] S (fX3_take k0 k1 S) dk_qv := by
  refine dk_enter "DuckWalk$Plank" (by decide +kernel) rfl (Nat.le_of_ble_eq_true rfl) [(0, .ref (g.1 k0)), (1, .ref (g.1 k1))] rfl ?_
  intro p e s m args below meth c C
  unfold fX3_take
  refine dj_aload_n C 1 rfl dX3_take_0 ?_
  refine dj_getr (r := 1) (k2 := k1 + 1) C dl_X3_9 rfl h1 rfl dX3_take_1 ?_
  refine dj_iconst C dX3_take_4 dc_iconst_0 ?_
  refine dj_aload_n C 0 rfl dX3_take_5 ?_
  refine dj_getr (r := 1) (k2 := k0 + 1) C dl_X3_9 rfl h0 rfl dX3_take_6 ?_
  refine dj_iconst C dX3_take_9 dc_iconst_0 ?_
  refine dj_bipush C dX3_take_10 dc_bipush_100 ?_
  refine dj_copy (n0 := 100) (n1 := 100) C (dk_m2 235 rfl rfl) (dt_3_1 h1) (by decide) (dt_3_1 h0) (by decide) (Nat.le_of_ble_eq_true rfl) (Nat.le_of_ble_eq_true rfl) dX3_take_12 (fun S1 => ?_)
  refine dj_aload_n C 0 rfl dX3_take_15 ?_
  refine dj_aload_n C 1 rfl dX3_take_16 ?_
  refine dj_geti C dl_X3_15 rfl h1 dX3_take_17 ?_
  refine dj_puti C dl_X3_15 dp_3_1 rfl h0 dX3_take_20 (fun S2 => ?_)
  exact dj_vret C dX3_take_23
noncomputable def fX0_take (k0 : Nat) (k1 : Nat) (S : dk_S) : Option (dk_S) := (fX1_take (k0 + 1) (k1 + 1) S).bind (fun r1 => (fX3_take (k0 + 3) (k1 + 3) r1).bind (fun r2 => dk_gd (decide (r2.1 k1 2 = 0 ∨ r2.1 k1 2 = 1)) (dk_lt (dk_si r2 k0 2 (r2.1 k1 2)) (fun S3 => dk_lt (dk_si S3 k0 3 (S3.1 k1 3)) (fun S4 => dk_lt (dk_si S4 k0 4 (S4.1 k1 4)) (fun S5 => dk_lt (dk_si S5 k0 5 (S5.1 k1 5)) (fun S6 => dk_lt (dk_si S6 k0 6 (S6.1 k1 6)) (fun S7 => dk_lt (dk_si S7 k0 7 (S7.1 k1 7)) (fun S8 => dk_lt (dk_si S8 k0 8 (S8.1 k1 8)) (fun S9 => dk_lt (dk_si S9 k0 9 (S9.1 k1 9)) (fun S10 => some S10)))))))))))
set_option maxRecDepth 100000 in
set_option maxHeartbeats 4000000 in
theorem ct_X0_take (l : Launch) (g : dk_G) (k0 : Nat) (k1 : Nat) (S : dk_S) (h0 : dk_kd k0 = 0) (h1 : dk_kd k1 = 0) : dk_M l g yX0_take cX0_take 2 none 2 39 [.ref (g.1 k0), .ref (g.1 k1)] S (fX0_take k0 k1 S) dk_qv := by
  refine dk_enter "DuckWalk$Course" (by decide +kernel) rfl (Nat.le_of_ble_eq_true rfl) [(0, .ref (g.1 k0)), (1, .ref (g.1 k1))] rfl ?_
  intro p e s m args below meth c C
  unfold fX0_take
  refine dj_aload_n C 0 rfl dX0_take_0 ?_
  refine dj_getr (r := 1) (k2 := k0 + 1) C dl_X0_12 rfl h0 rfl dX0_take_1 ?_
  refine dj_aload_n C 1 rfl dX0_take_4 ?_
  refine dj_getr (r := 1) (k2 := k1 + 1) C dl_X0_12 rfl h1 rfl dX0_take_5 ?_
  refine dj_callVv (t := 1) (As := [.ref (g.1 (k1 + 1))]) C dw_X0_51 ⟨_, _, rfl⟩ (by decide) (dt_0_1 h0) (ct_X1_take l g (k0 + 1) (k1 + 1) S (dt_0_1 h0) (dt_0_1 h1)) ⟨Nat.le_of_ble_eq_true rfl, Nat.le_of_ble_eq_true rfl⟩ rfl (Nat.le_of_ble_eq_true rfl) rfl dX0_take_8 (fun r1 => ?_)
  refine dj_aload_n C 0 rfl dX0_take_11 ?_
  refine dj_getr (r := 3) (k2 := k0 + 3) C dl_X0_21 rfl h0 rfl dX0_take_12 ?_
  refine dj_aload_n C 1 rfl dX0_take_15 ?_
  refine dj_getr (r := 3) (k2 := k1 + 3) C dl_X0_21 rfl h1 rfl dX0_take_16 ?_
  refine dj_callVv (t := 3) (As := [.ref (g.1 (k1 + 3))]) C dw_X0_55 ⟨_, _, rfl⟩ (by decide) (dt_0_3 h0) (ct_X3_take l g (k0 + 3) (k1 + 3) r1 (dt_0_3 h0) (dt_0_3 h1)) ⟨Nat.le_of_ble_eq_true rfl, Nat.le_of_ble_eq_true rfl⟩ rfl (Nat.le_of_ble_eq_true rfl) rfl dX0_take_19 (fun r2 => ?_)
  refine dj_aload_n C 0 rfl dX0_take_22 ?_
  refine dj_aload_n C 1 rfl dX0_take_23 ?_
  refine dj_geti C dl_X0_25 rfl h1 dX0_take_24 ?_
  refine dj_putzg C dl_X0_25 dp_0_2 rfl h0 dX0_take_27 (fun S3 => ?_)
  refine dj_aload_n C 0 rfl dX0_take_30 ?_
  refine dj_aload_n C 1 rfl dX0_take_31 ?_
  refine dj_geti C dl_X0_29 rfl h1 dX0_take_32 ?_
  refine dj_puti C dl_X0_29 dp_0_3 rfl h0 dX0_take_35 (fun S4 => ?_)
  refine dj_aload_n C 0 rfl dX0_take_38 ?_
  refine dj_aload_n C 1 rfl dX0_take_39 ?_
  refine dj_geti C dl_X0_33 rfl h1 dX0_take_40 ?_
  refine dj_puti C dl_X0_33 dp_0_4 rfl h0 dX0_take_43 (fun S5 => ?_)
  refine dj_aload_n C 0 rfl dX0_take_46 ?_
  refine dj_aload_n C 1 rfl dX0_take_47 ?_
  refine dj_geti C dl_X0_36 rfl h1 dX0_take_48 ?_
  refine dj_puti C dl_X0_36 dp_0_5 rfl h0 dX0_take_51 (fun S6 => ?_)
  refine dj_aload_n C 0 rfl dX0_take_54 ?_
  refine dj_aload_n C 1 rfl dX0_take_55 ?_
  refine dj_geti C dl_X0_39 rfl h1 dX0_take_56 ?_
  refine dj_puti C dl_X0_39 dp_0_6 rfl h0 dX0_take_59 (fun S7 => ?_)
  refine dj_aload_n C 0 rfl dX0_take_62 ?_
  refine dj_aload_n C 1 rfl dX0_take_63 ?_
  refine dj_geti C dl_X0_42 rfl h1 dX0_take_64 ?_
  refine dj_puti C dl_X0_42 dp_0_7 rfl h0 dX0_take_67 (fun S8 => ?_)
  refine dj_aload_n C 0 rfl dX0_take_70 ?_
  refine dj_aload_n C 1 rfl dX0_take_71 ?_
  refine dj_geti C dl_X0_45 rfl h1 dX0_take_72 ?_
  refine dj_puti C dl_X0_45 dp_0_8 rfl h0 dX0_take_75 (fun S9 => ?_)
  refine dj_aload_n C 0 rfl dX0_take_78 ?_
  refine dj_aload_n C 1 rfl dX0_take_79 ?_
  refine dj_geti C dl_X0_48 rfl h1 dX0_take_80 ?_
  refine dj_puti C dl_X0_48 dp_0_9 rfl h0 dX0_take_83 (fun S10 => ?_)
  exact dj_vret C dX0_take_86
noncomputable def fJ9_max_7cf53 (x0 : Int32) (x1 : Int32) (S : dk_S) : Option (Int32 × dk_S) := if x0 < x1 then some (x1, S) else some (x0, S)
set_option maxRecDepth 100000 in
set_option maxHeartbeats 4000000 in
theorem ct_J9_max_7cf53 (l : Launch) (g : dk_G) (x0 : Int32) (x1 : Int32) (S : dk_S)  : dk_M l g yJ9_max_7cf53 cJ9_max_7cf53 2 (some .int) 0 0 [.int x0, .int x1] S (fJ9_max_7cf53 x0 x1 S) dk_qi := by
  refine dk_enter "java/lang/Math" (by decide +kernel) rfl (Nat.le_of_ble_eq_true rfl) [(0, .int x0), (1, .int x1)] rfl ?_
  intro p e s m args below meth c C
  unfold fJ9_max_7cf53
  refine dj_iload_n C 0 rfl dJ9_max_7cf53_0 ?_
  refine dj_iload_n C 1 rfl dJ9_max_7cf53_1 ?_
  refine dj_icmp_lt (tgt := 9) C dJ9_max_7cf53_2 (by decide) (fun c1 => ?_) (fun c1 => ?_)
  · refine dj_iload_n C 1 rfl dJ9_max_7cf53_9 ?_
    exact dj_iret C dJ9_max_7cf53_10
  · refine dj_iload_n C 0 rfl dJ9_max_7cf53_5 ?_
    refine dj_goto (tgt := 10) C dJ9_max_7cf53_6 (by decide) ?_
    exact dj_iret C dJ9_max_7cf53_10
noncomputable def fX1_damp (k0 : Nat) (S : dk_S) : Option (Int32 × dk_S) := (fJ9_max_7cf53 1 ((8 + (2 * (S.1 (k0 + 1) 1))) - (S.1 (k0 + 1) 2)) S).bind (fun r1 => some (r1.1, r1.2))
set_option maxRecDepth 100000 in
set_option maxHeartbeats 4000000 in
theorem ct_X1_damp (l : Launch) (g : dk_G) (k0 : Nat) (S : dk_S) (h0 : dk_kd k0 = 1) : dk_M l g yX1_damp cX1_damp 1 (some .int) 1 21 [.ref (g.1 k0)] S (fX1_damp k0 S) dk_qi := by
  refine dk_enter "DuckWalk$Duck" (by decide +kernel) rfl (Nat.le_of_ble_eq_true rfl) [(0, .ref (g.1 k0))] rfl ?_
  intro p e s m args below meth c C
  unfold fX1_damp
  refine dj_iconst C dX1_damp_0 dc_iconst_1 ?_
  refine dj_bipush C dX1_damp_1 dc_bipush_8 ?_
  refine dj_iconst C dX1_damp_3 dc_iconst_2 ?_
  refine dj_aload_n C 0 rfl dX1_damp_4 ?_
  refine dj_getr (r := 1) (k2 := k0 + 1) C dl_X1_9 rfl h0 rfl dX1_damp_5 ?_
  refine dj_iconst C dX1_damp_8 dc_iconst_1 ?_
  refine dj_ialdn (n := 6) (j := 1) C (dt_1_1 h0) (by decide) (by decide) (by decide) dX1_damp_9 ?_
  refine dj_imul C dX1_damp_10 ?_
  refine dj_iadd C dX1_damp_11 ?_
  refine dj_aload_n C 0 rfl dX1_damp_12 ?_
  refine dj_getr (r := 1) (k2 := k0 + 1) C dl_X1_9 rfl h0 rfl dX1_damp_13 ?_
  refine dj_iconst C dX1_damp_16 dc_iconst_2 ?_
  refine dj_ialdn (n := 6) (j := 2) C (dt_1_1 h0) (by decide) (by decide) (by decide) dX1_damp_17 ?_
  refine dj_isub C dX1_damp_18 ?_
  refine dj_callSi (As := [.int 1, .int ((8 + (2 * (S.1 (k0 + 1) 1))) - (S.1 (k0 + 1) 2))]) C dw_X1_43 (ct_J9_max_7cf53 l g 1 ((8 + (2 * (S.1 (k0 + 1) 1))) - (S.1 (k0 + 1) 2)) S) ⟨Nat.le_of_ble_eq_true rfl, Nat.le_of_ble_eq_true rfl⟩ rfl (Nat.le_of_ble_eq_true rfl) rfl dX1_damp_19 (fun r1 => ?_)
  exact dj_iret C dX1_damp_22
noncomputable def fX1_gain (k0 : Nat) (x1 : Int32) (x2 : Int32) (S : dk_S) : Option (Int32 × dk_S) := if x2 = 0 then some (((x1 * (S.1 (k0 + 1) 3)) / 10) + (S.1 (k0 + 1) 4), S) else some (((x1 * (S.1 (k0 + 1) 3)) / 10) + (S.1 (k0 + 1) 5), S)
set_option maxRecDepth 100000 in
set_option maxHeartbeats 4000000 in
theorem ct_X1_gain (l : Launch) (g : dk_G) (k0 : Nat) (x1 : Int32) (x2 : Int32) (S : dk_S) (h0 : dk_kd k0 = 1) : dk_M l g yX1_gain cX1_gain 3 (some .int) 0 0 [.ref (g.1 k0), .int x1, .int x2] S (fX1_gain k0 x1 x2 S) dk_qi := by
  refine dk_enter "DuckWalk$Duck" (by decide +kernel) rfl (Nat.le_of_ble_eq_true rfl) [(0, .ref (g.1 k0)), (1, .int x1), (2, .int x2)] rfl ?_
  intro p e s m args below meth c C
  unfold fX1_gain
  refine dj_iload_n C 1 rfl dX1_gain_0 ?_
  refine dj_aload_n C 0 rfl dX1_gain_1 ?_
  refine dj_getr (r := 1) (k2 := k0 + 1) C dl_X1_9 rfl h0 rfl dX1_gain_2 ?_
  refine dj_iconst C dX1_gain_5 dc_iconst_3 ?_
  refine dj_ialdn (n := 6) (j := 3) C (dt_1_1 h0) (by decide) (by decide) (by decide) dX1_gain_6 ?_
  refine dj_imul C dX1_gain_7 ?_
  refine dj_bipush C dX1_gain_8 dc_bipush_10 ?_
  refine dj_idiv C dX1_gain_10 (by decide) ?_
  refine dj_aload_n C 0 rfl dX1_gain_11 ?_
  refine dj_getr (r := 1) (k2 := k0 + 1) C dl_X1_9 rfl h0 rfl dX1_gain_12 ?_
  refine dj_iload_n C 2 rfl dX1_gain_15 ?_
  refine dj_if_ne (tgt := 23) C dX1_gain_16 (by decide) (fun c1 => ?_) (fun c1 => ?_)
  · refine dj_iconst C dX1_gain_23 dc_iconst_5 ?_
    refine dj_ialdn (n := 6) (j := 5) C (dt_1_1 h0) (by decide) (by decide) (by decide) dX1_gain_24 ?_
    refine dj_iadd C dX1_gain_25 ?_
    exact dj_iret C dX1_gain_26
  · refine dj_iconst C dX1_gain_19 dc_iconst_4 ?_
    refine dj_goto (tgt := 24) C dX1_gain_20 (by decide) ?_
    refine dj_ialdn (n := 6) (j := 4) C (dt_1_1 h0) (by decide) (by decide) (by decide) dX1_gain_24 ?_
    refine dj_iadd C dX1_gain_25 ?_
    exact dj_iret C dX1_gain_26
noncomputable def fX1_limit (k0 : Nat) (S : dk_S) : Option (Int32 × dk_S) := some (20 + (8 * (S.1 (k0 + 1) 0)), S)
set_option maxRecDepth 100000 in
set_option maxHeartbeats 4000000 in
theorem ct_X1_limit (l : Launch) (g : dk_G) (k0 : Nat) (S : dk_S) (h0 : dk_kd k0 = 1) : dk_M l g yX1_limit cX1_limit 1 (some .int) 0 0 [.ref (g.1 k0)] S (fX1_limit k0 S) dk_qi := by
  refine dk_enter "DuckWalk$Duck" (by decide +kernel) rfl (Nat.le_of_ble_eq_true rfl) [(0, .ref (g.1 k0))] rfl ?_
  intro p e s m args below meth c C
  unfold fX1_limit
  refine dj_bipush C dX1_limit_0 dc_bipush_20 ?_
  refine dj_bipush C dX1_limit_2 dc_bipush_8 ?_
  refine dj_aload_n C 0 rfl dX1_limit_4 ?_
  refine dj_getr (r := 1) (k2 := k0 + 1) C dl_X1_9 rfl h0 rfl dX1_limit_5 ?_
  refine dj_iconst C dX1_limit_8 dc_iconst_0 ?_
  refine dj_ialdn (n := 6) (j := 0) C (dt_1_1 h0) (by decide) (by decide) (by decide) dX1_limit_9 ?_
  refine dj_imul C dX1_limit_10 ?_
  refine dj_iadd C dX1_limit_11 ?_
  exact dj_iret C dX1_limit_12
noncomputable def fX8_isOutside (x0 : Int32) (x1 : Int32) (x2 : Int32) (S : dk_S) : Option (Int32 × dk_S) := if x0 < x1 then some (1, S) else if x0 ≤ x2 then some (0, S) else some (1, S)
set_option maxRecDepth 100000 in
set_option maxHeartbeats 4000000 in
theorem ct_X8_isOutside (l : Launch) (g : dk_G) (x0 : Int32) (x1 : Int32) (x2 : Int32) (S : dk_S)  : dk_M l g yX8_isOutside cX8_isOutside 3 (some .boolean) 0 0 [.int x0, .int x1, .int x2] S (fX8_isOutside x0 x1 x2 S) dk_qi := by
  refine dk_enter "DuckWalk" (by decide +kernel) rfl (Nat.le_of_ble_eq_true rfl) [(0, .int x0), (1, .int x1), (2, .int x2)] rfl ?_
  intro p e s m args below meth c C
  unfold fX8_isOutside
  refine dj_iload_n C 0 rfl dX8_isOutside_0 ?_
  refine dj_iload_n C 1 rfl dX8_isOutside_1 ?_
  refine dj_icmp_lt (tgt := 10) C dX8_isOutside_2 (by decide) (fun c1 => ?_) (fun c1 => ?_)
  · refine dj_iconst C dX8_isOutside_10 dc_iconst_1 ?_
    refine dj_goto (tgt := 15) C dX8_isOutside_11 (by decide) ?_
    exact dj_zret C rfl dX8_isOutside_15
  · refine dj_iload_n C 0 rfl dX8_isOutside_5 ?_
    refine dj_iload_n C 2 rfl dX8_isOutside_6 ?_
    refine dj_icmp_le (tgt := 14) C dX8_isOutside_7 (by decide) (fun c2 => ?_) (fun c2 => ?_)
    · refine dj_iconst C dX8_isOutside_14 dc_iconst_0 ?_
      exact dj_zret C rfl dX8_isOutside_15
    · refine dj_iconst C dX8_isOutside_10 dc_iconst_1 ?_
      refine dj_goto (tgt := 15) C dX8_isOutside_11 (by decide) ?_
      exact dj_zret C rfl dX8_isOutside_15
noncomputable def fX3_bumpsOf (k0 : Nat) (x1 : Int32) (S : dk_S) : Option (Int32 × dk_S) := (fX8_isOutside x1 0 99 S).bind (fun r1 => if r1.1 = 0 then dk_gd (dk_in x1 100) (some (r1.2.1 (k0 + 1) x1.toNatClampNeg, r1.2)) else some (0, r1.2))
set_option maxRecDepth 100000 in
set_option maxHeartbeats 4000000 in
theorem ct_X3_bumpsOf (l : Launch) (g : dk_G) (k0 : Nat) (x1 : Int32) (S : dk_S) (h0 : dk_kd k0 = 3) : dk_M l g yX3_bumpsOf cX3_bumpsOf 2 (some .int) 1 22 [.ref (g.1 k0), .int x1] S (fX3_bumpsOf k0 x1 S) dk_qi := by
  refine dk_enter "DuckWalk$Plank" (by decide +kernel) rfl (Nat.le_of_ble_eq_true rfl) [(0, .ref (g.1 k0)), (1, .int x1)] rfl ?_
  intro p e s m args below meth c C
  unfold fX3_bumpsOf
  refine dj_iload_n C 1 rfl dX3_bumpsOf_0 ?_
  refine dj_iconst C dX3_bumpsOf_1 dc_iconst_0 ?_
  refine dj_bipush C dX3_bumpsOf_2 dc_bipush_99 ?_
  refine dj_callNi (As := [.int x1, .int 0, .int 99]) C dw_X3_35 (ct_X8_isOutside l g x1 0 99 S) ⟨Nat.le_of_ble_eq_true rfl, Nat.le_of_ble_eq_true rfl⟩ rfl (Nat.le_of_ble_eq_true rfl) rfl dX3_bumpsOf_4 (fun r1 => ?_)
  refine dj_if_eq (tgt := 14) C dX3_bumpsOf_7 (by decide) (fun c2 => ?_) (fun c2 => ?_)
  · refine dj_aload_n C 0 rfl dX3_bumpsOf_14 ?_
    refine dj_getr (r := 1) (k2 := k0 + 1) C dl_X3_9 rfl h0 rfl dX3_bumpsOf_15 ?_
    refine dj_iload_n C 1 rfl dX3_bumpsOf_18 ?_
    refine dj_iald (n := 100) C (dt_3_1 h0) (by decide) dX3_bumpsOf_19 ?_
    exact dj_iret C dX3_bumpsOf_20
  · refine dj_iconst C dX3_bumpsOf_10 dc_iconst_0 ?_
    refine dj_goto (tgt := 20) C dX3_bumpsOf_11 (by decide) ?_
    exact dj_iret C dX3_bumpsOf_20
noncomputable def fX0_stride (k0 : Nat) (S : dk_S) : Option (Int32 × dk_S) := if (S.1 k0 7) = 0 then (fX1_damp (k0 + 1) S).bind (fun r2 => dk_gd (decide (¬ r2.1 = 0)) (dk_lt (((S.1 k0 4) * (S.1 k0 4)) / r2.1) (fun y3 : Int32 => (fX1_gain (k0 + 1) (r2.2.1 k0 3) (r2.2.1 k0 5) r2.2).bind (fun r4 => (fX3_bumpsOf (k0 + 3) (r4.2.1 k0 6) r4.2).bind (fun r5 => dk_lt (((((r2.2.1 k0 4) + r4.1) - y3) - (r4.2.1 (k0 + 3) 1)) - r5.1) (fun y6 : Int32 => dk_lt (fun t7 : Int32 × dk_S => (dk_lt (dk_si t7.2 k0 4 t7.1) (fun S9 => dk_lt (dk_si S9 k0 6 ((S9.1 k0 6) + 1)) (fun S10 => dk_lt (dk_si S10 k0 8 ((S10.1 k0 8) + y3)) (fun S11 => dk_lt (dk_si S11 k0 9 ((S11.1 k0 9) + ((S11.1 (k0 + 2) 3) + ((S11.1 k0 4) / 10)))) (fun S12 => some (1, S12))))) : Option (Int32 × dk_S))) (fun k8 => if 3 ≤ y6 then (fX1_limit (k0 + 1) r5.2).bind (fun r14 => if y6 ≤ r14.1 then dk_lt (dk_si r14.2 k0 5 (1 - (r14.2.1 k0 5))) (fun S16 => k8 (y6, S16)) else dk_lt (dk_si r14.2 k0 7 2) (fun S17 => k8 (y6, S17))) else dk_lt (dk_si r5.2 k0 7 1) (fun S18 => k8 (0, S18))))))))) else some (0, S)
set_option maxRecDepth 100000 in
set_option maxHeartbeats 4000000 in
theorem ct_X0_stride (l : Launch) (g : dk_G) (k0 : Nat) (S : dk_S) (h0 : dk_kd k0 = 0) : dk_M l g yX0_stride cX0_stride 3 (some .boolean) 2 43 [.ref (g.1 k0)] S (fX0_stride k0 S) dk_qi := by
  refine dk_enter "DuckWalk$Course" (by decide +kernel) rfl (Nat.le_of_ble_eq_true rfl) [(0, .ref (g.1 k0))] rfl ?_
  intro p e s m args below meth c C
  unfold fX0_stride
  refine dj_aload_n C 0 rfl dX0_stride_0 ?_
  refine dj_geti C dl_X0_42 rfl h0 dX0_stride_1 ?_
  refine dj_if_eq (tgt := 9) C dX0_stride_4 (by decide) (fun c1 => ?_) (fun c1 => ?_)
  · refine dj_aload_n C 0 rfl dX0_stride_9 ?_
    refine dj_geti C dl_X0_33 rfl h0 dX0_stride_10 ?_
    refine dj_aload_n C 0 rfl dX0_stride_13 ?_
    refine dj_geti C dl_X0_33 rfl h0 dX0_stride_14 ?_
    refine dj_imul C dX0_stride_17 ?_
    refine dj_aload_n C 0 rfl dX0_stride_18 ?_
    refine dj_getr (r := 1) (k2 := k0 + 1) C dl_X0_12 rfl h0 rfl dX0_stride_19 ?_
    refine dj_callVi (t := 1) (As := []) C dw_X0_58 ⟨_, _, rfl⟩ (by decide) (dt_0_1 h0) (ct_X1_damp l g (k0 + 1) S (dt_0_1 h0)) ⟨Nat.le_of_ble_eq_true rfl, Nat.le_of_ble_eq_true rfl⟩ rfl (Nat.le_of_ble_eq_true rfl) rfl dX0_stride_22 (fun r2 => ?_)
    refine dj_idivg C dX0_stride_25 ?_
    refine dj_lti (fun y3 => ?_)
    refine dj_istore_n (lv2 := [(0, .ref (g.1 k0)), (1, .int y3)]) C [1, 0] dX0_stride_26 rfl (by decide) rfl ?_
    refine dj_aload_n C 0 rfl dX0_stride_27 ?_
    refine dj_geti C dl_X0_33 rfl h0 dX0_stride_28 ?_
    refine dj_aload_n C 0 rfl dX0_stride_31 ?_
    refine dj_getr (r := 1) (k2 := k0 + 1) C dl_X0_12 rfl h0 rfl dX0_stride_32 ?_
    refine dj_aload_n C 0 rfl dX0_stride_35 ?_
    refine dj_geti C dl_X0_29 rfl h0 dX0_stride_36 ?_
    refine dj_aload_n C 0 rfl dX0_stride_39 ?_
    refine dj_geti C dl_X0_36 rfl h0 dX0_stride_40 ?_
    refine dj_callVi (t := 1) (As := [.int (r2.2.1 k0 3), .int (r2.2.1 k0 5)]) C dw_X0_62 ⟨_, _, rfl⟩ (by decide) (dt_0_1 h0) (ct_X1_gain l g (k0 + 1) (r2.2.1 k0 3) (r2.2.1 k0 5) r2.2 (dt_0_1 h0)) ⟨Nat.le_of_ble_eq_true rfl, Nat.le_of_ble_eq_true rfl⟩ rfl (Nat.le_of_ble_eq_true rfl) rfl dX0_stride_43 (fun r4 => ?_)
    refine dj_iadd C dX0_stride_46 ?_
    refine dj_iload_n C 1 rfl dX0_stride_47 ?_
    refine dj_isub C dX0_stride_48 ?_
    refine dj_aload_n C 0 rfl dX0_stride_49 ?_
    refine dj_getr (r := 3) (k2 := k0 + 3) C dl_X0_21 rfl h0 rfl dX0_stride_50 ?_
    refine dj_geti C dl_X0_66 rfl (dt_0_3 h0) dX0_stride_53 ?_
    refine dj_isub C dX0_stride_56 ?_
    refine dj_aload_n C 0 rfl dX0_stride_57 ?_
    refine dj_getr (r := 3) (k2 := k0 + 3) C dl_X0_21 rfl h0 rfl dX0_stride_58 ?_
    refine dj_aload_n C 0 rfl dX0_stride_61 ?_
    refine dj_geti C dl_X0_39 rfl h0 dX0_stride_62 ?_
    refine dj_callVi (t := 3) (As := [.int (r4.2.1 k0 6)]) C dw_X0_69 ⟨_, _, rfl⟩ (by decide) (dt_0_3 h0) (ct_X3_bumpsOf l g (k0 + 3) (r4.2.1 k0 6) r4.2 (dt_0_3 h0)) ⟨Nat.le_of_ble_eq_true rfl, Nat.le_of_ble_eq_true rfl⟩ rfl (Nat.le_of_ble_eq_true rfl) rfl dX0_stride_65 (fun r5 => ?_)
    refine dj_isub C dX0_stride_68 ?_
    refine dj_lti (fun y6 => ?_)
    refine dj_istore_n (lv2 := [(0, .ref (g.1 k0)), (1, .int y3), (2, .int y6)]) C [1, 2, 0] dX0_stride_69 rfl (by decide) rfl ?_
    refine dj_iload_n C 2 rfl dX0_stride_70 ?_
    refine dj_iconst C dX0_stride_71 dc_iconst_3 ?_
    refine dj_join 114 (fun t7 : Int32 × dk_S => [(0, .ref (g.1 k0)), (1, .int y3), (2, .int t7.1)]) (fun t7 : Int32 × dk_S => []) (fun t7 : Int32 × dk_S => t7.2) (fun t7 => ?_) (fun k8 hk8 => ?_)
    · refine dj_aload_n C 0 rfl dX0_stride_114 ?_
      refine dj_iload_n C 2 rfl dX0_stride_115 ?_
      refine dj_puti C dl_X0_33 dp_0_4 rfl h0 dX0_stride_116 (fun S9 => ?_)
      refine dj_aload_n C 0 rfl dX0_stride_119 ?_
      refine dj_dup C dX0_stride_120 rfl ?_
      refine dj_geti C dl_X0_39 rfl h0 dX0_stride_121 ?_
      refine dj_iconst C dX0_stride_124 dc_iconst_1 ?_
      refine dj_iadd C dX0_stride_125 ?_
      refine dj_puti C dl_X0_39 dp_0_6 rfl h0 dX0_stride_126 (fun S10 => ?_)
      refine dj_aload_n C 0 rfl dX0_stride_129 ?_
      refine dj_dup C dX0_stride_130 rfl ?_
      refine dj_geti C dl_X0_45 rfl h0 dX0_stride_131 ?_
      refine dj_iload_n C 1 rfl dX0_stride_134 ?_
      refine dj_iadd C dX0_stride_135 ?_
      refine dj_puti C dl_X0_45 dp_0_8 rfl h0 dX0_stride_136 (fun S11 => ?_)
      refine dj_aload_n C 0 rfl dX0_stride_139 ?_
      refine dj_dup C dX0_stride_140 rfl ?_
      refine dj_geti C dl_X0_48 rfl h0 dX0_stride_141 ?_
      refine dj_aload_n C 0 rfl dX0_stride_144 ?_
      refine dj_getr (r := 1) (k2 := k0 + 1) C dl_X0_12 rfl h0 rfl dX0_stride_145 ?_
      refine dj_getr (r := 1) (k2 := k0 + 2) C dl_X0_76 rfl (dt_0_1 h0) rfl dX0_stride_148 ?_
      refine dj_iconst C dX0_stride_151 dc_iconst_3 ?_
      refine dj_ialdn (n := 6) (j := 3) C (dt_0_2 h0) (by decide) (by decide) (by decide) dX0_stride_152 ?_
      refine dj_aload_n C 0 rfl dX0_stride_153 ?_
      refine dj_geti C dl_X0_33 rfl h0 dX0_stride_154 ?_
      refine dj_bipush C dX0_stride_157 dc_bipush_10 ?_
      refine dj_idiv C dX0_stride_159 (by decide) ?_
      refine dj_iadd C dX0_stride_160 ?_
      refine dj_iadd C dX0_stride_161 ?_
      refine dj_puti C dl_X0_48 dp_0_9 rfl h0 dX0_stride_162 (fun S12 => ?_)
      refine dj_iconst C dX0_stride_165 dc_iconst_1 ?_
      exact dj_zret C rfl dX0_stride_166
    · refine dj_icmp_ge (tgt := 85) C dX0_stride_72 (by decide) (fun c13 => ?_) (fun c13 => ?_)
      · refine dj_iload_n C 2 rfl dX0_stride_85 ?_
        refine dj_aload_n C 0 rfl dX0_stride_86 ?_
        refine dj_getr (r := 1) (k2 := k0 + 1) C dl_X0_12 rfl h0 rfl dX0_stride_87 ?_
        refine dj_callVi (t := 1) (As := []) C dw_X0_73 ⟨_, _, rfl⟩ (by decide) (dt_0_1 h0) (ct_X1_limit l g (k0 + 1) r5.2 (dt_0_1 h0)) ⟨Nat.le_of_ble_eq_true rfl, Nat.le_of_ble_eq_true rfl⟩ rfl (Nat.le_of_ble_eq_true rfl) rfl dX0_stride_90 (fun r14 => ?_)
        refine dj_icmp_le (tgt := 104) C dX0_stride_93 (by decide) (fun c15 => ?_) (fun c15 => ?_)
        · refine dj_aload_n C 0 rfl dX0_stride_104 ?_
          refine dj_iconst C dX0_stride_105 dc_iconst_1 ?_
          refine dj_aload_n C 0 rfl dX0_stride_106 ?_
          refine dj_geti C dl_X0_36 rfl h0 dX0_stride_107 ?_
          refine dj_isub C dX0_stride_110 ?_
          refine dj_puti C dl_X0_36 dp_0_5 rfl h0 dX0_stride_111 (fun S16 => ?_)
          exact hk8 (y6, S16)
        · refine dj_aload_n C 0 rfl dX0_stride_96 ?_
          refine dj_iconst C dX0_stride_97 dc_iconst_2 ?_
          refine dj_puti C dl_X0_42 dp_0_7 rfl h0 dX0_stride_98 (fun S17 => ?_)
          refine dj_goto (tgt := 114) C dX0_stride_101 (by decide) ?_
          exact hk8 (y6, S17)
      · refine dj_aload_n C 0 rfl dX0_stride_75 ?_
        refine dj_iconst C dX0_stride_76 dc_iconst_1 ?_
        refine dj_puti C dl_X0_42 dp_0_7 rfl h0 dX0_stride_77 (fun S18 => ?_)
        refine dj_iconst C dX0_stride_80 dc_iconst_0 ?_
        refine dj_istore_n (lv2 := [(0, .ref (g.1 k0)), (1, .int y3), (2, .int 0)]) C [1, 2, 0] dX0_stride_81 rfl (by decide) rfl ?_
        refine dj_goto (tgt := 114) C dX0_stride_82 (by decide) ?_
        exact hk8 (0, S18)
  · refine dj_iconst C dX0_stride_7 dc_iconst_0 ?_
    exact dj_zret C rfl dX0_stride_8
noncomputable def fX0_strideOn_L2 (k0 : Nat) (x1 : Int32) : Nat → Int32 → dk_S → Option (Int32 × dk_S)
  | 0, _, _ => none
  | n + 1, x2, S => if x1 ≤ x2 then some (x2, S) else (fX0_stride k0 S).bind (fun r2 => if r2.1 = 0 then some (x2, r2.2) else fX0_strideOn_L2 k0 x1 n (x2 + 1) r2.2)
noncomputable def fX0_strideOn (k0 : Nat) (x1 : Int32) (S : dk_S) : Option (Int32 × dk_S) := fX0_strideOn_L2 k0 x1 dk_FU 0 S
set_option maxRecDepth 100000 in
set_option maxHeartbeats 4000000 in
theorem jX0_strideOn_L2 {p : Program} {l : Launch} {e : Env} {R : Room} {s : State} {m : MethodId} {args : Array Value} {below : List Frame} {meth : Method} {c : Code} {g : dk_G} (C : dk_C p l e R s m args below meth c g cX0_strideOn "DuckWalk$Course" 3 (some .int)) (hR : R = { frames := 3, cells := 0, slots := 0, locals := 65 }) (k0 : Nat) (x1 : Int32) (h0 : dk_kd k0 = 0)  : ∀ (n : Nat) (x2 : Int32) (S : dk_S), dk_J p l e R s m args below meth c g 3 dk_qi 2 [(0, .ref (g.1 k0)), (1, .int x1), (2, .int x2)] [] S (fX0_strideOn_L2 k0 x1 n x2 S) some := by
  subst hR
  intro n
  induction n with
  | zero =>
    intro x2 S
    exact dj_none
  | succ n ih =>
    intro x2 S
    rw [fX0_strideOn_L2]
    refine dj_iload_n C 2 rfl dX0_strideOn_2 ?_
    refine dj_iload_n C 1 rfl dX0_strideOn_3 ?_
    refine dj_icmp_ge (tgt := 20) C dX0_strideOn_4 (by decide) (fun c1 => ?_) (fun c1 => ?_)
    · refine dj_iload_n C 2 rfl dX0_strideOn_20 ?_
      exact dj_iret C dX0_strideOn_21
    · refine dj_aload_n C 0 rfl dX0_strideOn_7 ?_
      refine dj_callVi (t := 0) (As := []) C dw_X0_80 ⟨_, _, rfl⟩ (by decide) h0 (ct_X0_stride l g k0 S h0) ⟨Nat.le_of_ble_eq_true rfl, Nat.le_of_ble_eq_true rfl⟩ rfl (Nat.le_of_ble_eq_true rfl) rfl dX0_strideOn_8 (fun r2 => ?_)
      refine dj_if_eq (tgt := 20) C dX0_strideOn_11 (by decide) (fun c3 => ?_) (fun c3 => ?_)
      · refine dj_iload_n C 2 rfl dX0_strideOn_20 ?_
        exact dj_iret C dX0_strideOn_21
      · refine dj_iinc (lv2 := [(0, .ref (g.1 k0)), (1, .int x1), (2, .int (x2 + 1))]) C 2 rfl [1, 2, 0] dX0_strideOn_14 dc_iconst_1 (by decide) rfl ?_
        refine dj_goto (tgt := 2) C dX0_strideOn_17 (by decide) ?_
        exact ih (x2 + 1) r2.2
set_option maxRecDepth 100000 in
set_option maxHeartbeats 4000000 in
theorem ct_X0_strideOn (l : Launch) (g : dk_G) (k0 : Nat) (x1 : Int32) (S : dk_S) (h0 : dk_kd k0 = 0) : dk_M l g yX0_strideOn cX0_strideOn 3 (some .int) 3 65 [.ref (g.1 k0), .int x1] S (fX0_strideOn k0 x1 S) dk_qi := by
  refine dk_enter "DuckWalk$Course" (by decide +kernel) rfl (Nat.le_of_ble_eq_true rfl) [(0, .ref (g.1 k0)), (1, .int x1)] rfl ?_
  intro p e s m args below meth c C
  unfold fX0_strideOn
  refine dj_iconst C dX0_strideOn_0 dc_iconst_0 ?_
  refine dj_istore_n (lv2 := [(0, .ref (g.1 k0)), (1, .int x1), (2, .int 0)]) C [1, 2, 0] dX0_strideOn_1 rfl (by decide) rfl ?_
  refine jX0_strideOn_L2 C rfl k0 x1 h0 dk_FU 0 S
noncomputable def fX0_value (k0 : Nat) (x1 : Int32) (S : dk_S) : Option (Int32 × dk_S) := if x1 = 0 then some (S.1 k0 4, S) else if x1 = 1 then some (S.1 k0 5, S) else if x1 = 2 then some (S.1 k0 6, S) else if x1 = 3 then some (S.1 k0 7, S) else if x1 = 4 then some (S.1 k0 3, S) else if x1 = 5 then some (S.1 k0 8, S) else some (S.1 k0 9, S)
set_option maxRecDepth 100000 in
set_option maxHeartbeats 4000000 in
theorem ct_X0_value (l : Launch) (g : dk_G) (k0 : Nat) (x1 : Int32) (S : dk_S) (h0 : dk_kd k0 = 0) : dk_M l g yX0_value cX0_value 2 (some .int) 0 0 [.ref (g.1 k0), .int x1] S (fX0_value k0 x1 S) dk_qi := by
  refine dk_enter "DuckWalk$Course" (by decide +kernel) rfl (Nat.le_of_ble_eq_true rfl) [(0, .ref (g.1 k0)), (1, .int x1)] rfl ?_
  intro p e s m args below meth c C
  unfold fX0_value
  refine dj_iload_n C 1 rfl dX0_value_0 ?_
  refine dj_ite (fun h1 => ?_) (fun h1 => ?_)
  · refine dj_tsw_in (off := 39) (tgt := 40) C dX0_value_1 (by rw [h1]; decide) (by rw [h1]; decide) (by rw [h1]; rfl) (by decide) ?_
    refine dj_aload_n C 0 rfl dX0_value_40 ?_
    refine dj_geti C dl_X0_33 rfl h0 dX0_value_41 ?_
    exact dj_iret C dX0_value_44
  · refine dj_ite (fun h2 => ?_) (fun h2 => ?_)
    · refine dj_tsw_in (off := 44) (tgt := 45) C dX0_value_1 (by rw [h2]; decide) (by rw [h2]; decide) (by rw [h2]; rfl) (by decide) ?_
      refine dj_aload_n C 0 rfl dX0_value_45 ?_
      refine dj_geti C dl_X0_36 rfl h0 dX0_value_46 ?_
      exact dj_iret C dX0_value_49
    · refine dj_ite (fun h3 => ?_) (fun h3 => ?_)
      · refine dj_tsw_in (off := 49) (tgt := 50) C dX0_value_1 (by rw [h3]; decide) (by rw [h3]; decide) (by rw [h3]; rfl) (by decide) ?_
        refine dj_aload_n C 0 rfl dX0_value_50 ?_
        refine dj_geti C dl_X0_39 rfl h0 dX0_value_51 ?_
        exact dj_iret C dX0_value_54
      · refine dj_ite (fun h4 => ?_) (fun h4 => ?_)
        · refine dj_tsw_in (off := 54) (tgt := 55) C dX0_value_1 (by rw [h4]; decide) (by rw [h4]; decide) (by rw [h4]; rfl) (by decide) ?_
          refine dj_aload_n C 0 rfl dX0_value_55 ?_
          refine dj_geti C dl_X0_42 rfl h0 dX0_value_56 ?_
          exact dj_iret C dX0_value_59
        · refine dj_ite (fun h5 => ?_) (fun h5 => ?_)
          · refine dj_tsw_in (off := 59) (tgt := 60) C dX0_value_1 (by rw [h5]; decide) (by rw [h5]; decide) (by rw [h5]; rfl) (by decide) ?_
            refine dj_aload_n C 0 rfl dX0_value_60 ?_
            refine dj_geti C dl_X0_29 rfl h0 dX0_value_61 ?_
            exact dj_iret C dX0_value_64
          · refine dj_ite (fun h6 => ?_) (fun h6 => ?_)
            · refine dj_tsw_in (off := 64) (tgt := 65) C dX0_value_1 (by rw [h6]; decide) (by rw [h6]; decide) (by rw [h6]; rfl) (by decide) ?_
              refine dj_aload_n C 0 rfl dX0_value_65 ?_
              refine dj_geti C dl_X0_45 rfl h0 dX0_value_66 ?_
              exact dj_iret C dX0_value_69
            · refine dj_tsw_d (tgt := 70) C dX0_value_1 ?_ (by decide) ?_
              · have e0 : x1.toInt ≠ 0 := fun e => h1 (dk_teq e (by decide))
                have e1 : x1.toInt ≠ 1 := fun e => h2 (dk_teq e (by decide))
                have e2 : x1.toInt ≠ 2 := fun e => h3 (dk_teq e (by decide))
                have e3 : x1.toInt ≠ 3 := fun e => h4 (dk_teq e (by decide))
                have e4 : x1.toInt ≠ 4 := fun e => h5 (dk_teq e (by decide))
                have e5 : x1.toInt ≠ 5 := fun e => h6 (dk_teq e (by decide))
                rcases (show x1.toInt < 0 ∨ 5 < x1.toInt by omega) with h | h
                · exact Or.inl h
                · exact Or.inr (Or.inl h)
              · refine dj_aload_n C 0 rfl dX0_value_70 ?_
                refine dj_geti C dl_X0_48 rfl h0 dX0_value_71 ?_
                exact dj_iret C dX0_value_74
noncomputable def fX0_digestOn_L20 (k0 : Nat) : Nat → Int64 → Int32 → dk_S → Option (Int64 × dk_S)
  | 0, _, _, _ => none
  | n + 1, x3, x5, S => if 6 < x5 then some (x3, S) else (fX0_value k0 x5 S).bind (fun r3 => dk_lt ((31 * x3) + r3.1.toInt64) (fun y4 : Int64 => fX0_digestOn_L20 k0 n y4 (x5 + 1) r3.2))
noncomputable def fX0_digestOn (k0 : Nat) (x1 : Int64) (S : dk_S) : Option (Int64 × dk_S) := if (S.1 k0 2) = 0 then some ((31 * x1) - 1, S) else fX0_digestOn_L20 k0 dk_FU x1 0 S
set_option maxRecDepth 100000 in
set_option maxHeartbeats 4000000 in
theorem jX0_digestOn_L20 {p : Program} {l : Launch} {e : Env} {R : Room} {s : State} {m : MethodId} {args : Array Value} {below : List Frame} {meth : Method} {c : Code} {g : dk_G} (C : dk_C p l e R s m args below meth c g cX0_digestOn "DuckWalk$Course" 6 (some .long)) (hR : R = { frames := 1, cells := 0, slots := 0, locals := 21 }) (k0 : Nat) (h0 : dk_kd k0 = 0)  : ∀ (n : Nat) (x3 : Int64) (x5 : Int32) (S : dk_S), dk_J p l e R s m args below meth c g 6 dk_ql 20 [(0, .ref (g.1 k0)), (3, .long x3), (5, .int x5)] [] S (fX0_digestOn_L20 k0 n x3 x5 S) some := by
  subst hR
  intro n
  induction n with
  | zero =>
    intro x3 x5 S
    exact dj_none
  | succ n ih =>
    intro x3 x5 S
    rw [fX0_digestOn_L20]
    refine dj_iload C 2 rfl dX0_digestOn_20 ?_
    refine dj_bipush C dX0_digestOn_22 dc_bipush_6 ?_
    refine dj_icmp_gt (tgt := 47) C dX0_digestOn_24 (by decide) (fun c2 => ?_) (fun c2 => ?_)
    · refine dj_lload_n C 1 rfl dX0_digestOn_47 ?_
      exact dj_lret C dX0_digestOn_48
    · refine dj_ldc2 C (dk_m4 109 rfl rfl) dX0_digestOn_27 ?_
      refine dj_lload_n C 1 rfl dX0_digestOn_30 ?_
      refine dj_lmul C dX0_digestOn_31 ?_
      refine dj_aload_n C 0 rfl dX0_digestOn_32 ?_
      refine dj_iload C 2 rfl dX0_digestOn_33 ?_
      refine dj_callVi (t := 0) (As := [.int x5]) C dw_X0_86 ⟨_, _, rfl⟩ (by decide) h0 (ct_X0_value l g k0 x5 S h0) ⟨Nat.le_of_ble_eq_true rfl, Nat.le_of_ble_eq_true rfl⟩ rfl (Nat.le_of_ble_eq_true rfl) rfl dX0_digestOn_35 (fun r3 => ?_)
      refine dj_i2l C dX0_digestOn_38 ?_
      refine dj_ladd C dX0_digestOn_39 ?_
      refine dj_ltl (fun y4 => ?_)
      refine dj_lstore_n (lv2 := [(0, .ref (g.1 k0)), (3, .long y4), (5, .int x5)]) C [1, 0, 2] dX0_digestOn_40 rfl (by decide) rfl ?_
      refine dj_iinc (lv2 := [(0, .ref (g.1 k0)), (3, .long y4), (5, .int (x5 + 1))]) C 2 rfl [1, 2, 0] dX0_digestOn_41 dc_iconst_1 (by decide) rfl ?_
      refine dj_goto (tgt := 20) C dX0_digestOn_44 (by decide) ?_
      exact ih y4 (x5 + 1) r3.2
set_option maxRecDepth 100000 in
set_option maxHeartbeats 4000000 in
theorem ct_X0_digestOn (l : Launch) (g : dk_G) (k0 : Nat) (x1 : Int64) (S : dk_S) (h0 : dk_kd k0 = 0) : dk_M l g yX0_digestOn cX0_digestOn 6 (some .long) 1 21 [.ref (g.1 k0), .long x1] S (fX0_digestOn k0 x1 S) dk_ql := by
  refine dk_enter "DuckWalk$Course" (by decide +kernel) rfl (Nat.le_of_ble_eq_true rfl) [(0, .ref (g.1 k0)), (1, .long x1)] rfl ?_
  intro p e s m args below meth c C
  unfold fX0_digestOn
  refine dj_aload_n C 0 rfl dX0_digestOn_0 ?_
  refine dj_geti C dl_X0_25 rfl h0 dX0_digestOn_1 ?_
  refine dj_if_ne (tgt := 15) C dX0_digestOn_4 (by decide) (fun c1 => ?_) (fun c1 => ?_)
  · refine dj_lload_n C 1 rfl dX0_digestOn_15 ?_
    refine dj_lstore_n (lv2 := [(0, .ref (g.1 k0)), (3, .long x1)]) C [1, 0] dX0_digestOn_16 rfl (by decide) rfl ?_
    refine dj_iconst C dX0_digestOn_17 dc_iconst_0 ?_
    refine dj_istore (lv2 := [(0, .ref (g.1 k0)), (3, .long x1), (5, .int 0)]) C [1, 2, 0] dX0_digestOn_18 (by decide) rfl ?_
    refine jX0_digestOn_L20 C rfl k0 h0 dk_FU x1 0 S
  · refine dj_ldc2 C (dk_m4 109 rfl rfl) dX0_digestOn_7 ?_
    refine dj_lload_n C 1 rfl dX0_digestOn_10 ?_
    refine dj_lmul C dX0_digestOn_11 ?_
    refine dj_lconst (v := 1) C dX0_digestOn_12 rfl ?_
    refine dj_lsub C dX0_digestOn_13 ?_
    exact dj_lret C dX0_digestOn_14
noncomputable def fJ7_rangeCheck_23922 (x0 : Int32) (x1 : Int32) (x2 : Int32) (S : dk_S) : Option (dk_S) := if x1 ≤ x2 then if 0 ≤ x1 then if x2 ≤ x0 then some S else none else none else none
set_option maxRecDepth 100000 in
set_option maxHeartbeats 4000000 in
theorem ct_J7_rangeCheck_23922 (l : Launch) (g : dk_G) (x0 : Int32) (x1 : Int32) (x2 : Int32) (S : dk_S)  : dk_M l g yJ7_rangeCheck_23922 cJ7_rangeCheck_23922 3 none 0 0 [.int x0, .int x1, .int x2] S (fJ7_rangeCheck_23922 x0 x1 x2 S) dk_qv := by
  refine dk_enter "java/util/Arrays" (by decide +kernel) rfl (Nat.le_of_ble_eq_true rfl) [(0, .int x0), (1, .int x1), (2, .int x2)] rfl ?_
  intro p e s m args below meth c C
  unfold fJ7_rangeCheck_23922
  refine dj_iload_n C 1 rfl dJ7_rangeCheck_23922_0 ?_
  refine dj_iload_n C 2 rfl dJ7_rangeCheck_23922_1 ?_
  refine dj_icmp_le (tgt := 46) C dJ7_rangeCheck_23922_2 (by decide) (fun c1 => ?_) (fun c1 => ?_)
  · refine dj_iload_n C 1 rfl dJ7_rangeCheck_23922_46 ?_
    refine dj_if_ge (tgt := 59) C dJ7_rangeCheck_23922_47 (by decide) (fun c2 => ?_) (fun c2 => ?_)
    · refine dj_iload_n C 2 rfl dJ7_rangeCheck_23922_59 ?_
      refine dj_iload_n C 0 rfl dJ7_rangeCheck_23922_60 ?_
      refine dj_icmp_le (tgt := 73) C dJ7_rangeCheck_23922_61 (by decide) (fun c3 => ?_) (fun c3 => ?_)
      · exact dj_vret C dJ7_rangeCheck_23922_73
      · exact dj_none
    · exact dj_none
  · exact dj_none
noncomputable def fJ7_fill_fda19_L10 (k0 : Nat) (n0 : Nat) (x2 : Int32) (x3 : Int32) : Nat → Int32 → dk_S → Option (dk_S)
  | 0, _, _ => none
  | n + 1, x4, S => if x2 ≤ x4 then some S else dk_gd (dk_in x4 n0) (dk_lt (dk_si S k0 x4.toNatClampNeg x3) (fun S3 => fJ7_fill_fda19_L10 k0 n0 x2 x3 n (x4 + 1) S3))
noncomputable def fJ7_fill_fda19 (k0 : Nat) (n0 : Nat) (x1 : Int32) (x2 : Int32) (x3 : Int32) (S : dk_S) : Option (dk_S) := (fJ7_rangeCheck_23922 (Int32.ofNat n0) x1 x2 S).bind (fun r1 => fJ7_fill_fda19_L10 k0 n0 x2 x3 dk_FU x1 r1)
set_option maxRecDepth 100000 in
set_option maxHeartbeats 4000000 in
theorem jJ7_fill_fda19_L10 {p : Program} {l : Launch} {e : Env} {R : Room} {s : State} {m : MethodId} {args : Array Value} {below : List Frame} {meth : Method} {c : Code} {g : dk_G} (C : dk_C p l e R s m args below meth c g cJ7_fill_fda19 "java/util/Arrays" 5 none) (hR : R = { frames := 1, cells := 0, slots := 0, locals := 22 }) (k0 : Nat) (n0 : Nat) (x2 : Int32) (x3 : Int32) (h0 : dk_kd k0 = 1000 + n0) (hn0 : n0 < 1000)  : ∀ (n : Nat) (x4 : Int32) (S : dk_S), dk_J p l e R s m args below meth c g 5 dk_qv 10 [(0, .ref (g.1 k0)), (2, .int x2), (3, .int x3), (4, .int x4)] [] S (fJ7_fill_fda19_L10 k0 n0 x2 x3 n x4 S) some := by
  subst hR
  intro n
  induction n with
  | zero =>
    intro x4 S
    exact dj_none
  | succ n ih =>
    intro x4 S
    rw [fJ7_fill_fda19_L10]
    refine dj_iload C 3 rfl dJ7_fill_fda19_10 ?_
    refine dj_iload_n C 1 rfl dJ7_fill_fda19_12 ?_
    refine dj_icmp_ge (tgt := 27) C dJ7_fill_fda19_13 (by decide) (fun c2 => ?_) (fun c2 => ?_)
    · exact dj_vret C dJ7_fill_fda19_27
    · refine dj_aload_n C 0 rfl dJ7_fill_fda19_16 ?_
      refine dj_iload C 3 rfl dJ7_fill_fda19_17 ?_
      refine dj_iload_n C 2 rfl dJ7_fill_fda19_19 ?_
      refine dj_iast (n := n0) C h0 hn0 dJ7_fill_fda19_20 (fun S3 => ?_)
      refine dj_iinc (lv2 := [(0, .ref (g.1 k0)), (2, .int x2), (3, .int x3), (4, .int (x4 + 1))]) C 3 rfl [1, 2, 3, 0] dJ7_fill_fda19_21 dc_iconst_1 (by decide) rfl ?_
      refine dj_goto (tgt := 10) C dJ7_fill_fda19_24 (by decide) ?_
      exact ih (x4 + 1) S3
set_option maxRecDepth 100000 in
set_option maxHeartbeats 4000000 in
theorem ct_J7_fill_fda19 (l : Launch) (g : dk_G) (k0 : Nat) (n0 : Nat) (x1 : Int32) (x2 : Int32) (x3 : Int32) (S : dk_S) (h0 : dk_kd k0 = 1000 + n0) (hn0 : n0 < 1000) : dk_M l g yJ7_fill_fda19 cJ7_fill_fda19 5 none 1 22 [.ref (g.1 k0), .int x1, .int x2, .int x3] S (fJ7_fill_fda19 k0 n0 x1 x2 x3 S) dk_qv := by
  refine dk_enter "java/util/Arrays" (by decide +kernel) rfl (Nat.le_of_ble_eq_true rfl) [(0, .ref (g.1 k0)), (1, .int x1), (2, .int x2), (3, .int x3)] rfl ?_
  intro p e s m args below meth c C
  unfold fJ7_fill_fda19
  refine dj_aload_n C 0 rfl dJ7_fill_fda19_0 ?_
  refine dj_alen (n := n0) C h0 hn0 rfl dJ7_fill_fda19_1 ?_
  refine dj_iload_n C 1 rfl dJ7_fill_fda19_2 ?_
  refine dj_iload_n C 2 rfl dJ7_fill_fda19_3 ?_
  refine dj_callSv (As := [.int (Int32.ofNat n0), .int x1, .int x2]) C dw_J7_13 (ct_J7_rangeCheck_23922 l g (Int32.ofNat n0) x1 x2 S) ⟨Nat.le_of_ble_eq_true rfl, Nat.le_of_ble_eq_true rfl⟩ rfl (Nat.le_of_ble_eq_true rfl) rfl dJ7_fill_fda19_4 (fun r1 => ?_)
  refine dj_iload_n C 1 rfl dJ7_fill_fda19_7 ?_
  refine dj_istore (lv2 := [(0, .ref (g.1 k0)), (2, .int x2), (3, .int x3), (4, .int x1)]) C [1, 3, 4, 0] dJ7_fill_fda19_8 (by decide) rfl ?_
  refine jJ7_fill_fda19_L10 C rfl k0 n0 x2 x3 h0 hn0 dk_FU x1 r1
noncomputable def fX1_clear (k0 : Nat) (S : dk_S) : Option (dk_S) := (fJ7_fill_fda19 (k0 + 1) 6 0 4 5 S).bind (fun r1 => (fJ7_fill_fda19 (k0 + 1) 6 4 6 0 r1).bind (fun r2 => dk_lt (dk_si r2 k0 1 0) (fun S3 => some S3)))
set_option maxRecDepth 100000 in
set_option maxHeartbeats 4000000 in
theorem ct_X1_clear (l : Launch) (g : dk_G) (k0 : Nat) (S : dk_S) (h0 : dk_kd k0 = 1) : dk_M l g yX1_clear cX1_clear 1 none 2 46 [.ref (g.1 k0)] S (fX1_clear k0 S) dk_qv := by
  refine dk_enter "DuckWalk$Duck" (by decide +kernel) rfl (Nat.le_of_ble_eq_true rfl) [(0, .ref (g.1 k0))] rfl ?_
  intro p e s m args below meth c C
  unfold fX1_clear
  refine dj_aload_n C 0 rfl dX1_clear_0 ?_
  refine dj_getr (r := 1) (k2 := k0 + 1) C dl_X1_9 rfl h0 rfl dX1_clear_1 ?_
  refine dj_iconst C dX1_clear_4 dc_iconst_0 ?_
  refine dj_iconst C dX1_clear_5 dc_iconst_4 ?_
  refine dj_iconst C dX1_clear_6 dc_iconst_5 ?_
  refine dj_callSv (As := [.ref (g.1 (k0 + 1)), .int 0, .int 4, .int 5]) C dw_X1_23 (ct_J7_fill_fda19 l g (k0 + 1) 6 0 4 5 S (dt_1_1 h0) (by decide)) ⟨Nat.le_of_ble_eq_true rfl, Nat.le_of_ble_eq_true rfl⟩ rfl (Nat.le_of_ble_eq_true rfl) rfl dX1_clear_7 (fun r1 => ?_)
  refine dj_aload_n C 0 rfl dX1_clear_10 ?_
  refine dj_getr (r := 1) (k2 := k0 + 1) C dl_X1_9 rfl h0 rfl dX1_clear_11 ?_
  refine dj_iconst C dX1_clear_14 dc_iconst_4 ?_
  refine dj_bipush C dX1_clear_15 dc_bipush_6 ?_
  refine dj_iconst C dX1_clear_17 dc_iconst_0 ?_
  refine dj_callSv (As := [.ref (g.1 (k0 + 1)), .int 4, .int 6, .int 0]) C dw_X1_23 (ct_J7_fill_fda19 l g (k0 + 1) 6 4 6 0 r1 (dt_1_1 h0) (by decide)) ⟨Nat.le_of_ble_eq_true rfl, Nat.le_of_ble_eq_true rfl⟩ rfl (Nat.le_of_ble_eq_true rfl) rfl dX1_clear_18 (fun r2 => ?_)
  refine dj_aload_n C 0 rfl dX1_clear_21 ?_
  refine dj_iconst C dX1_clear_22 dc_iconst_0 ?_
  refine dj_puti C dl_X1_15 dp_1_1 rfl h0 dX1_clear_23 (fun S3 => ?_)
  exact dj_vret C dX1_clear_26
noncomputable def fX1_shape (k0 : Nat) (x1 : Int32) (x2 : Int32) (x3 : Int32) (S : dk_S) : Option (dk_S) := dk_lt (dk_si S (k0 + 1) 0 x1) (fun S1 => dk_lt (dk_si S1 (k0 + 1) 1 x2) (fun S2 => dk_lt (dk_si S2 (k0 + 1) 2 x3) (fun S3 => some S3)))
set_option maxRecDepth 100000 in
set_option maxHeartbeats 4000000 in
theorem ct_X1_shape (l : Launch) (g : dk_G) (k0 : Nat) (x1 : Int32) (x2 : Int32) (x3 : Int32) (S : dk_S) (h0 : dk_kd k0 = 1) : dk_M l g yX1_shape cX1_shape 4 none 0 0 [.ref (g.1 k0), .int x1, .int x2, .int x3] S (fX1_shape k0 x1 x2 x3 S) dk_qv := by
  refine dk_enter "DuckWalk$Duck" (by decide +kernel) rfl (Nat.le_of_ble_eq_true rfl) [(0, .ref (g.1 k0)), (1, .int x1), (2, .int x2), (3, .int x3)] rfl ?_
  intro p e s m args below meth c C
  unfold fX1_shape
  refine dj_aload_n C 0 rfl dX1_shape_0 ?_
  refine dj_getr (r := 1) (k2 := k0 + 1) C dl_X1_9 rfl h0 rfl dX1_shape_1 ?_
  refine dj_iconst C dX1_shape_4 dc_iconst_0 ?_
  refine dj_iload_n C 1 rfl dX1_shape_5 ?_
  refine dj_iastn (n := 6) (j := 0) C (dt_1_1 h0) (by decide) (by decide) (by decide) dX1_shape_6 (fun S1 => ?_)
  refine dj_aload_n C 0 rfl dX1_shape_7 ?_
  refine dj_getr (r := 1) (k2 := k0 + 1) C dl_X1_9 rfl h0 rfl dX1_shape_8 ?_
  refine dj_iconst C dX1_shape_11 dc_iconst_1 ?_
  refine dj_iload_n C 2 rfl dX1_shape_12 ?_
  refine dj_iastn (n := 6) (j := 1) C (dt_1_1 h0) (by decide) (by decide) (by decide) dX1_shape_13 (fun S2 => ?_)
  refine dj_aload_n C 0 rfl dX1_shape_14 ?_
  refine dj_getr (r := 1) (k2 := k0 + 1) C dl_X1_9 rfl h0 rfl dX1_shape_15 ?_
  refine dj_iconst C dX1_shape_18 dc_iconst_2 ?_
  refine dj_iload_n C 3 rfl dX1_shape_19 ?_
  refine dj_iastn (n := 6) (j := 2) C (dt_1_1 h0) (by decide) (by decide) (by decide) dX1_shape_20 (fun S3 => ?_)
  exact dj_vret C dX1_shape_21
noncomputable def fX1_isUntold (k0 : Nat) (x1 : Int32) (S : dk_S) : Option (Int32 × dk_S) := if (((S.1 k0 1) >>> (x1 &&& 31)) &&& 1) = 0 then some (0, S) else some (1, S)
set_option maxRecDepth 100000 in
set_option maxHeartbeats 4000000 in
theorem ct_X1_isUntold (l : Launch) (g : dk_G) (k0 : Nat) (x1 : Int32) (S : dk_S) (h0 : dk_kd k0 = 1) : dk_M l g yX1_isUntold cX1_isUntold 2 (some .boolean) 0 0 [.ref (g.1 k0), .int x1] S (fX1_isUntold k0 x1 S) dk_qi := by
  refine dk_enter "DuckWalk$Duck" (by decide +kernel) rfl (Nat.le_of_ble_eq_true rfl) [(0, .ref (g.1 k0)), (1, .int x1)] rfl ?_
  intro p e s m args below meth c C
  unfold fX1_isUntold
  refine dj_aload_n C 0 rfl dX1_isUntold_0 ?_
  refine dj_geti C dl_X1_15 rfl h0 dX1_isUntold_1 ?_
  refine dj_iload_n C 1 rfl dX1_isUntold_4 ?_
  refine dj_ishr C dX1_isUntold_5 ?_
  refine dj_iconst C dX1_isUntold_6 dc_iconst_1 ?_
  refine dj_iand C dX1_isUntold_7 ?_
  refine dj_if_eq (tgt := 15) C dX1_isUntold_8 (by decide) (fun c1 => ?_) (fun c1 => ?_)
  · refine dj_iconst C dX1_isUntold_15 dc_iconst_0 ?_
    exact dj_zret C rfl dX1_isUntold_16
  · refine dj_iconst C dX1_isUntold_11 dc_iconst_1 ?_
    refine dj_goto (tgt := 16) C dX1_isUntold_12 (by decide) ?_
    exact dj_zret C rfl dX1_isUntold_16
noncomputable def fX1_ways_L4 (k0 : Nat) : Nat → Int32 → Int32 → dk_S → Option (Int32 × dk_S)
  | 0, _, _, _ => none
  | n + 1, x1, x2, S => if 3 < x2 then some (x1, S) else (fX1_isUntold k0 x2 S).bind (fun r2 => dk_lt (if r2.1 = 0 then 1 else 9) (fun y3 : Int32 => dk_lt (x1 * y3) (fun y4 : Int32 => fX1_ways_L4 k0 n y4 (x2 + 1) r2.2)))
noncomputable def fX1_ways (k0 : Nat) (S : dk_S) : Option (Int32 × dk_S) := fX1_ways_L4 k0 dk_FU 1 0 S
set_option maxRecDepth 100000 in
set_option maxHeartbeats 4000000 in
theorem jX1_ways_L4 {p : Program} {l : Launch} {e : Env} {R : Room} {s : State} {m : MethodId} {args : Array Value} {below : List Frame} {meth : Method} {c : Code} {g : dk_G} (C : dk_C p l e R s m args below meth c g cX1_ways "DuckWalk$Duck" 3 (some .int)) (hR : R = { frames := 1, cells := 0, slots := 0, locals := 21 }) (k0 : Nat) (h0 : dk_kd k0 = 1)  : ∀ (n : Nat) (x1 : Int32) (x2 : Int32) (S : dk_S), dk_J p l e R s m args below meth c g 3 dk_qi 4 [(0, .ref (g.1 k0)), (1, .int x1), (2, .int x2)] [] S (fX1_ways_L4 k0 n x1 x2 S) some := by
  subst hR
  intro n
  induction n with
  | zero =>
    intro x1 x2 S
    exact dj_none
  | succ n ih =>
    intro x1 x2 S
    rw [fX1_ways_L4]
    refine dj_iload_n C 2 rfl dX1_ways_4 ?_
    refine dj_iconst C dX1_ways_5 dc_iconst_3 ?_
    refine dj_icmp_gt (tgt := 32) C dX1_ways_6 (by decide) (fun c1 => ?_) (fun c1 => ?_)
    · refine dj_iload_n C 1 rfl dX1_ways_32 ?_
      exact dj_iret C dX1_ways_33
    · refine dj_iload_n C 1 rfl dX1_ways_9 ?_
      refine dj_aload_n C 0 rfl dX1_ways_10 ?_
      refine dj_iload_n C 2 rfl dX1_ways_11 ?_
      refine dj_callVi (t := 1) (As := [.int x2]) C dw_X1_35 ⟨_, _, rfl⟩ (by decide) h0 (ct_X1_isUntold l g k0 x2 S h0) ⟨Nat.le_of_ble_eq_true rfl, Nat.le_of_ble_eq_true rfl⟩ rfl (Nat.le_of_ble_eq_true rfl) rfl dX1_ways_12 (fun r2 => ?_)
      refine dj_dia 24 [.int x1] (fun y3 => ?_) (fun hd3 => ?_)
      · refine dj_imul C dX1_ways_24 ?_
        refine dj_lti (fun y4 => ?_)
        refine dj_istore_n (lv2 := [(0, .ref (g.1 k0)), (1, .int y4), (2, .int x2)]) C [1, 0, 2] dX1_ways_25 rfl (by decide) rfl ?_
        refine dj_iinc (lv2 := [(0, .ref (g.1 k0)), (1, .int y4), (2, .int (x2 + 1))]) C 2 rfl [1, 2, 0] dX1_ways_26 dc_iconst_1 (by decide) rfl ?_
        refine dj_goto (tgt := 4) C dX1_ways_29 (by decide) ?_
        exact ih y4 (x2 + 1) r2.2
      · refine dj_ltite ?_
        refine dj_if_eq (tgt := 23) C dX1_ways_15 (by decide) (fun c5 => ?_) (fun c5 => ?_)
        · refine dj_iconst C dX1_ways_23 dc_iconst_1 ?_
          exact hd3 _
        · refine dj_bipush C dX1_ways_18 dc_bipush_9 ?_
          refine dj_goto (tgt := 24) C dX1_ways_20 (by decide) ?_
          exact hd3 _
set_option maxRecDepth 100000 in
set_option maxHeartbeats 4000000 in
theorem ct_X1_ways (l : Launch) (g : dk_G) (k0 : Nat) (S : dk_S) (h0 : dk_kd k0 = 1) : dk_M l g yX1_ways cX1_ways 3 (some .int) 1 21 [.ref (g.1 k0)] S (fX1_ways k0 S) dk_qi := by
  refine dk_enter "DuckWalk$Duck" (by decide +kernel) rfl (Nat.le_of_ble_eq_true rfl) [(0, .ref (g.1 k0))] rfl ?_
  intro p e s m args below meth c C
  unfold fX1_ways
  refine dj_iconst C dX1_ways_0 dc_iconst_1 ?_
  refine dj_istore_n (lv2 := [(0, .ref (g.1 k0)), (1, .int 1)]) C [1, 0] dX1_ways_1 rfl (by decide) rfl ?_
  refine dj_iconst C dX1_ways_2 dc_iconst_0 ?_
  refine dj_istore_n (lv2 := [(0, .ref (g.1 k0)), (1, .int 1), (2, .int 0)]) C [1, 2, 0] dX1_ways_3 rfl (by decide) rfl ?_
  refine jX1_ways_L4 C rfl k0 h0 dk_FU 1 0 S
noncomputable def fX1_tellUntold_L4 (k0 : Nat) : Nat → Int32 → Int32 → dk_S → Option (dk_S)
  | 0, _, _, _ => none
  | n + 1, x2, x3, S => if x3 < 0 then some S else (fX1_isUntold k0 x3 S).bind (fun r2 => dk_lt (fun t3 : Int32 × dk_S => (fX1_tellUntold_L4 k0 n t3.1 (x3 + (-1)) t3.2 : Option (dk_S))) (fun k4 => if r2.1 = 0 then k4 (x2, r2.2) else dk_gd (dk_in x3 6) (dk_lt (dk_si r2.2 (k0 + 1) x3.toNatClampNeg (1 + (x2 - x2 / 9 * 9))) (fun S6 => dk_lt (x2 / 9) (fun y7 : Int32 => k4 (y7, S6))))))
noncomputable def fX1_tellUntold (k0 : Nat) (x1 : Int32) (S : dk_S) : Option (dk_S) := fX1_tellUntold_L4 k0 dk_FU x1 3 S
set_option maxRecDepth 100000 in
set_option maxHeartbeats 4000000 in
theorem jX1_tellUntold_L4 {p : Program} {l : Launch} {e : Env} {R : Room} {s : State} {m : MethodId} {args : Array Value} {below : List Frame} {meth : Method} {c : Code} {g : dk_G} (C : dk_C p l e R s m args below meth c g cX1_tellUntold "DuckWalk$Duck" 4 none) (hR : R = { frames := 1, cells := 0, slots := 0, locals := 21 }) (k0 : Nat) (h0 : dk_kd k0 = 1)  : ∀ (n : Nat) (x2 : Int32) (x3 : Int32) (S : dk_S), dk_J p l e R s m args below meth c g 4 dk_qv 4 [(0, .ref (g.1 k0)), (2, .int x2), (3, .int x3)] [] S (fX1_tellUntold_L4 k0 n x2 x3 S) some := by
  subst hR
  intro n
  induction n with
  | zero =>
    intro x2 x3 S
    exact dj_none
  | succ n ih =>
    intro x2 x3 S
    rw [fX1_tellUntold_L4]
    refine dj_iload_n C 2 rfl dX1_tellUntold_4 ?_
    refine dj_if_lt (tgt := 39) C dX1_tellUntold_5 (by decide) (fun c1 => ?_) (fun c1 => ?_)
    · exact dj_vret C dX1_tellUntold_39
    · refine dj_aload_n C 0 rfl dX1_tellUntold_8 ?_
      refine dj_iload_n C 2 rfl dX1_tellUntold_9 ?_
      refine dj_callVi (t := 1) (As := [.int x3]) C dw_X1_35 ⟨_, _, rfl⟩ (by decide) h0 (ct_X1_isUntold l g k0 x3 S h0) ⟨Nat.le_of_ble_eq_true rfl, Nat.le_of_ble_eq_true rfl⟩ rfl (Nat.le_of_ble_eq_true rfl) rfl dX1_tellUntold_10 (fun r2 => ?_)
      refine dj_join 33 (fun t3 : Int32 × dk_S => [(0, .ref (g.1 k0)), (2, .int t3.1), (3, .int x3)]) (fun t3 : Int32 × dk_S => []) (fun t3 : Int32 × dk_S => t3.2) (fun t3 => ?_) (fun k4 hk4 => ?_)
      · refine dj_iinc (lv2 := [(0, .ref (g.1 k0)), (2, .int t3.1), (3, .int (x3 + (-1)))]) C 2 rfl [1, 2, 0] dX1_tellUntold_33 dc_iconst_m1 (by decide) rfl ?_
        refine dj_goto (tgt := 4) C dX1_tellUntold_36 (by decide) ?_
        exact ih t3.1 (x3 + (-1)) t3.2
      · refine dj_if_eq (tgt := 33) C dX1_tellUntold_13 (by decide) (fun c5 => ?_) (fun c5 => ?_)
        · exact hk4 (x2, r2.2)
        · refine dj_aload_n C 0 rfl dX1_tellUntold_16 ?_
          refine dj_getr (r := 1) (k2 := k0 + 1) C dl_X1_9 rfl h0 rfl dX1_tellUntold_17 ?_
          refine dj_iload_n C 2 rfl dX1_tellUntold_20 ?_
          refine dj_iconst C dX1_tellUntold_21 dc_iconst_1 ?_
          refine dj_iload_n C 1 rfl dX1_tellUntold_22 ?_
          refine dj_bipush C dX1_tellUntold_23 dc_bipush_9 ?_
          refine dj_irem C dX1_tellUntold_25 (by decide) ?_
          refine dj_iadd C dX1_tellUntold_26 ?_
          refine dj_iast (n := 6) C (dt_1_1 h0) (by decide) dX1_tellUntold_27 (fun S6 => ?_)
          refine dj_iload_n C 1 rfl dX1_tellUntold_28 ?_
          refine dj_bipush C dX1_tellUntold_29 dc_bipush_9 ?_
          refine dj_idiv C dX1_tellUntold_31 (by decide) ?_
          refine dj_lti (fun y7 => ?_)
          refine dj_istore_n (lv2 := [(0, .ref (g.1 k0)), (2, .int y7), (3, .int x3)]) C [1, 0, 2] dX1_tellUntold_32 rfl (by decide) rfl ?_
          exact hk4 (y7, S6)
set_option maxRecDepth 100000 in
set_option maxHeartbeats 4000000 in
theorem ct_X1_tellUntold (l : Launch) (g : dk_G) (k0 : Nat) (x1 : Int32) (S : dk_S) (h0 : dk_kd k0 = 1) : dk_M l g yX1_tellUntold cX1_tellUntold 4 none 1 21 [.ref (g.1 k0), .int x1] S (fX1_tellUntold k0 x1 S) dk_qv := by
  refine dk_enter "DuckWalk$Duck" (by decide +kernel) rfl (Nat.le_of_ble_eq_true rfl) [(0, .ref (g.1 k0)), (1, .int x1)] rfl ?_
  intro p e s m args below meth c C
  unfold fX1_tellUntold
  refine dj_iload_n C 1 rfl dX1_tellUntold_0 ?_
  refine dj_istore_n (lv2 := [(0, .ref (g.1 k0)), (2, .int x1)]) C [1, 0] dX1_tellUntold_1 rfl (by decide) rfl ?_
  refine dj_iconst C dX1_tellUntold_2 dc_iconst_3 ?_
  refine dj_istore_n (lv2 := [(0, .ref (g.1 k0)), (2, .int x1), (3, .int 3)]) C [1, 2, 0] dX1_tellUntold_3 rfl (by decide) rfl ?_
  refine jX1_tellUntold_L4 C rfl k0 h0 dk_FU x1 3 S
noncomputable def fX1_asNumber (k0 : Nat) (S : dk_S) : Option (Int32 × dk_S) := some ((((1000 * (S.1 (k0 + 1) 0)) + (100 * (S.1 (k0 + 1) 1))) + (10 * (S.1 (k0 + 1) 2))) + (S.1 (k0 + 1) 3), S)
set_option maxRecDepth 100000 in
set_option maxHeartbeats 4000000 in
theorem ct_X1_asNumber (l : Launch) (g : dk_G) (k0 : Nat) (S : dk_S) (h0 : dk_kd k0 = 1) : dk_M l g yX1_asNumber cX1_asNumber 1 (some .int) 0 0 [.ref (g.1 k0)] S (fX1_asNumber k0 S) dk_qi := by
  refine dk_enter "DuckWalk$Duck" (by decide +kernel) rfl (Nat.le_of_ble_eq_true rfl) [(0, .ref (g.1 k0))] rfl ?_
  intro p e s m args below meth c C
  unfold fX1_asNumber
  refine dj_sipush C dX1_asNumber_0 dc_sipush_1000 ?_
  refine dj_aload_n C 0 rfl dX1_asNumber_3 ?_
  refine dj_getr (r := 1) (k2 := k0 + 1) C dl_X1_9 rfl h0 rfl dX1_asNumber_4 ?_
  refine dj_iconst C dX1_asNumber_7 dc_iconst_0 ?_
  refine dj_ialdn (n := 6) (j := 0) C (dt_1_1 h0) (by decide) (by decide) (by decide) dX1_asNumber_8 ?_
  refine dj_imul C dX1_asNumber_9 ?_
  refine dj_bipush C dX1_asNumber_10 dc_bipush_100 ?_
  refine dj_aload_n C 0 rfl dX1_asNumber_12 ?_
  refine dj_getr (r := 1) (k2 := k0 + 1) C dl_X1_9 rfl h0 rfl dX1_asNumber_13 ?_
  refine dj_iconst C dX1_asNumber_16 dc_iconst_1 ?_
  refine dj_ialdn (n := 6) (j := 1) C (dt_1_1 h0) (by decide) (by decide) (by decide) dX1_asNumber_17 ?_
  refine dj_imul C dX1_asNumber_18 ?_
  refine dj_iadd C dX1_asNumber_19 ?_
  refine dj_bipush C dX1_asNumber_20 dc_bipush_10 ?_
  refine dj_aload_n C 0 rfl dX1_asNumber_22 ?_
  refine dj_getr (r := 1) (k2 := k0 + 1) C dl_X1_9 rfl h0 rfl dX1_asNumber_23 ?_
  refine dj_iconst C dX1_asNumber_26 dc_iconst_2 ?_
  refine dj_ialdn (n := 6) (j := 2) C (dt_1_1 h0) (by decide) (by decide) (by decide) dX1_asNumber_27 ?_
  refine dj_imul C dX1_asNumber_28 ?_
  refine dj_iadd C dX1_asNumber_29 ?_
  refine dj_aload_n C 0 rfl dX1_asNumber_30 ?_
  refine dj_getr (r := 1) (k2 := k0 + 1) C dl_X1_9 rfl h0 rfl dX1_asNumber_31 ?_
  refine dj_iconst C dX1_asNumber_34 dc_iconst_3 ?_
  refine dj_ialdn (n := 6) (j := 3) C (dt_1_1 h0) (by decide) (by decide) (by decide) dX1_asNumber_35 ?_
  refine dj_iadd C dX1_asNumber_36 ?_
  exact dj_iret C dX1_asNumber_37
noncomputable def fX1_value (k0 : Nat) (x1 : Int32) (S : dk_S) : Option (Int32 × dk_S) := (fX8_isOutside x1 0 5 S).bind (fun r1 => if r1.1 = 0 then dk_gd (dk_in x1 6) (some (r1.2.1 (k0 + 1) x1.toNatClampNeg, r1.2)) else some (r1.2.1 k0 1, r1.2))
set_option maxRecDepth 100000 in
set_option maxHeartbeats 4000000 in
theorem ct_X1_value (l : Launch) (g : dk_G) (k0 : Nat) (x1 : Int32) (S : dk_S) (h0 : dk_kd k0 = 1) : dk_M l g yX1_value cX1_value 2 (some .int) 1 22 [.ref (g.1 k0), .int x1] S (fX1_value k0 x1 S) dk_qi := by
  refine dk_enter "DuckWalk$Duck" (by decide +kernel) rfl (Nat.le_of_ble_eq_true rfl) [(0, .ref (g.1 k0)), (1, .int x1)] rfl ?_
  intro p e s m args below meth c C
  unfold fX1_value
  refine dj_iload_n C 1 rfl dX1_value_0 ?_
  refine dj_iconst C dX1_value_1 dc_iconst_0 ?_
  refine dj_iconst C dX1_value_2 dc_iconst_5 ?_
  refine dj_callNi (As := [.int x1, .int 0, .int 5]) C dw_X1_39 (ct_X8_isOutside l g x1 0 5 S) ⟨Nat.le_of_ble_eq_true rfl, Nat.le_of_ble_eq_true rfl⟩ rfl (Nat.le_of_ble_eq_true rfl) rfl dX1_value_3 (fun r1 => ?_)
  refine dj_if_eq (tgt := 16) C dX1_value_6 (by decide) (fun c2 => ?_) (fun c2 => ?_)
  · refine dj_aload_n C 0 rfl dX1_value_16 ?_
    refine dj_getr (r := 1) (k2 := k0 + 1) C dl_X1_9 rfl h0 rfl dX1_value_17 ?_
    refine dj_iload_n C 1 rfl dX1_value_20 ?_
    refine dj_iald (n := 6) C (dt_1_1 h0) (by decide) dX1_value_21 ?_
    exact dj_iret C dX1_value_22
  · refine dj_aload_n C 0 rfl dX1_value_9 ?_
    refine dj_geti C dl_X1_15 rfl h0 dX1_value_10 ?_
    refine dj_goto (tgt := 22) C dX1_value_13 (by decide) ?_
    exact dj_iret C dX1_value_22
noncomputable def fX1_digestOn_L20 (k0 : Nat) : Nat → Int64 → Int32 → dk_S → Option (Int64 × dk_S)
  | 0, _, _, _ => none
  | n + 1, x3, x5, S => if 6 < x5 then some (x3, S) else (fX1_value k0 x5 S).bind (fun r3 => dk_lt ((31 * x3) + r3.1.toInt64) (fun y4 : Int64 => fX1_digestOn_L20 k0 n y4 (x5 + 1) r3.2))
noncomputable def fX1_digestOn (k0 : Nat) (x1 : Int64) (S : dk_S) : Option (Int64 × dk_S) := if (S.1 k0 2) = 0 then some ((31 * x1) - 1, S) else fX1_digestOn_L20 k0 dk_FU x1 0 S
set_option maxRecDepth 100000 in
set_option maxHeartbeats 4000000 in
theorem jX1_digestOn_L20 {p : Program} {l : Launch} {e : Env} {R : Room} {s : State} {m : MethodId} {args : Array Value} {below : List Frame} {meth : Method} {c : Code} {g : dk_G} (C : dk_C p l e R s m args below meth c g cX1_digestOn "DuckWalk$Duck" 6 (some .long)) (hR : R = { frames := 2, cells := 0, slots := 0, locals := 43 }) (k0 : Nat) (h0 : dk_kd k0 = 1)  : ∀ (n : Nat) (x3 : Int64) (x5 : Int32) (S : dk_S), dk_J p l e R s m args below meth c g 6 dk_ql 20 [(0, .ref (g.1 k0)), (3, .long x3), (5, .int x5)] [] S (fX1_digestOn_L20 k0 n x3 x5 S) some := by
  subst hR
  intro n
  induction n with
  | zero =>
    intro x3 x5 S
    exact dj_none
  | succ n ih =>
    intro x3 x5 S
    rw [fX1_digestOn_L20]
    refine dj_iload C 2 rfl dX1_digestOn_20 ?_
    refine dj_bipush C dX1_digestOn_22 dc_bipush_6 ?_
    refine dj_icmp_gt (tgt := 47) C dX1_digestOn_24 (by decide) (fun c2 => ?_) (fun c2 => ?_)
    · refine dj_lload_n C 1 rfl dX1_digestOn_47 ?_
      exact dj_lret C dX1_digestOn_48
    · refine dj_ldc2 C (dk_m4 98 rfl rfl) dX1_digestOn_27 ?_
      refine dj_lload_n C 1 rfl dX1_digestOn_30 ?_
      refine dj_lmul C dX1_digestOn_31 ?_
      refine dj_aload_n C 0 rfl dX1_digestOn_32 ?_
      refine dj_iload C 2 rfl dX1_digestOn_33 ?_
      refine dj_callVi (t := 1) (As := [.int x5]) C dw_X1_51 ⟨_, _, rfl⟩ (by decide) h0 (ct_X1_value l g k0 x5 S h0) ⟨Nat.le_of_ble_eq_true rfl, Nat.le_of_ble_eq_true rfl⟩ rfl (Nat.le_of_ble_eq_true rfl) rfl dX1_digestOn_35 (fun r3 => ?_)
      refine dj_i2l C dX1_digestOn_38 ?_
      refine dj_ladd C dX1_digestOn_39 ?_
      refine dj_ltl (fun y4 => ?_)
      refine dj_lstore_n (lv2 := [(0, .ref (g.1 k0)), (3, .long y4), (5, .int x5)]) C [1, 0, 2] dX1_digestOn_40 rfl (by decide) rfl ?_
      refine dj_iinc (lv2 := [(0, .ref (g.1 k0)), (3, .long y4), (5, .int (x5 + 1))]) C 2 rfl [1, 2, 0] dX1_digestOn_41 dc_iconst_1 (by decide) rfl ?_
      refine dj_goto (tgt := 20) C dX1_digestOn_44 (by decide) ?_
      exact ih y4 (x5 + 1) r3.2
set_option maxRecDepth 100000 in
set_option maxHeartbeats 4000000 in
theorem ct_X1_digestOn (l : Launch) (g : dk_G) (k0 : Nat) (x1 : Int64) (S : dk_S) (h0 : dk_kd k0 = 1) : dk_M l g yX1_digestOn cX1_digestOn 6 (some .long) 2 43 [.ref (g.1 k0), .long x1] S (fX1_digestOn k0 x1 S) dk_ql := by
  refine dk_enter "DuckWalk$Duck" (by decide +kernel) rfl (Nat.le_of_ble_eq_true rfl) [(0, .ref (g.1 k0)), (1, .long x1)] rfl ?_
  intro p e s m args below meth c C
  unfold fX1_digestOn
  refine dj_aload_n C 0 rfl dX1_digestOn_0 ?_
  refine dj_geti C dl_X1_19 rfl h0 dX1_digestOn_1 ?_
  refine dj_if_ne (tgt := 15) C dX1_digestOn_4 (by decide) (fun c1 => ?_) (fun c1 => ?_)
  · refine dj_lload_n C 1 rfl dX1_digestOn_15 ?_
    refine dj_lstore_n (lv2 := [(0, .ref (g.1 k0)), (3, .long x1)]) C [1, 0] dX1_digestOn_16 rfl (by decide) rfl ?_
    refine dj_iconst C dX1_digestOn_17 dc_iconst_0 ?_
    refine dj_istore (lv2 := [(0, .ref (g.1 k0)), (3, .long x1), (5, .int 0)]) C [1, 2, 0] dX1_digestOn_18 (by decide) rfl ?_
    refine jX1_digestOn_L20 C rfl k0 h0 dk_FU x1 0 S
  · refine dj_ldc2 C (dk_m4 98 rfl rfl) dX1_digestOn_7 ?_
    refine dj_lload_n C 1 rfl dX1_digestOn_10 ?_
    refine dj_lmul C dX1_digestOn_11 ?_
    refine dj_lconst (v := 1) C dX1_digestOn_12 rfl ?_
    refine dj_lsub C dX1_digestOn_13 ?_
    exact dj_lret C dX1_digestOn_14
noncomputable def fJ9_abs_0f7a4 (x0 : Int32) (S : dk_S) : Option (Int32 × dk_S) := if 0 ≤ x0 then some (x0, S) else some (-x0, S)
set_option maxRecDepth 100000 in
set_option maxHeartbeats 4000000 in
theorem ct_J9_abs_0f7a4 (l : Launch) (g : dk_G) (x0 : Int32) (S : dk_S)  : dk_M l g yJ9_abs_0f7a4 cJ9_abs_0f7a4 1 (some .int) 0 0 [.int x0] S (fJ9_abs_0f7a4 x0 S) dk_qi := by
  refine dk_enter "java/lang/Math" (by decide +kernel) rfl (Nat.le_of_ble_eq_true rfl) [(0, .int x0)] rfl ?_
  intro p e s m args below meth c C
  unfold fJ9_abs_0f7a4
  refine dj_iload_n C 0 rfl dJ9_abs_0f7a4_0 ?_
  refine dj_if_ge (tgt := 9) C dJ9_abs_0f7a4_1 (by decide) (fun c1 => ?_) (fun c1 => ?_)
  · refine dj_iload_n C 0 rfl dJ9_abs_0f7a4_9 ?_
    exact dj_iret C dJ9_abs_0f7a4_10
  · refine dj_iload_n C 0 rfl dJ9_abs_0f7a4_4 ?_
    refine dj_ineg C dJ9_abs_0f7a4_5 ?_
    refine dj_goto (tgt := 10) C dJ9_abs_0f7a4_6 (by decide) ?_
    exact dj_iret C dJ9_abs_0f7a4_10
noncomputable def fX2_offOf_L18 (k1 : Nat) (k2 : Nat) : Nat → Int32 → Int32 → dk_S → Option (Int32 × dk_S)
  | 0, _, _, _ => none
  | n + 1, x4, x5, S => if (S.1 k2 1) ≤ x5 then some (x4, S) else if (S.1 29 0) < x4 then some (x4, S) else (fX0_stride k1 S).bind (fun r4 => dk_lt (if (r4.2.1 k1 7) = 0 then r4.2.1 k1 4 else 0) (fun y5 : Int32 => dk_gd (dk_in x5 60) ((fJ9_abs_0f7a4 (y5 - (r4.2.1 (k2 + 1) x5.toNatClampNeg)) r4.2).bind (fun r6 => dk_lt (x4 + r6.1) (fun y7 : Int32 => fX2_offOf_L18 k1 k2 n y7 (x5 + 1) r6.2)))))
noncomputable def fX2_offOf (k1 : Nat) (k2 : Nat) (x3 : Int32) (S : dk_S) : Option (Int32 × dk_S) := (fX0_begin k1 x3 (S.1 (k2 + 1) 0) 0 S).bind (fun r1 => fX2_offOf_L18 k1 k2 dk_FU 0 1 r1)
set_option maxRecDepth 100000 in
set_option maxHeartbeats 4000000 in
theorem jX2_offOf_L18 {p : Program} {l : Launch} {e : Env} {R : Room} {s : State} {m : MethodId} {args : Array Value} {below : List Frame} {meth : Method} {c : Code} {g : dk_G} (C : dk_C p l e R s m args below meth c g cX2_offOf "DuckWalk$Guess" 7 (some .int)) (hR : R = { frames := 3, cells := 0, slots := 0, locals := 65 }) (k1 : Nat) (k2 : Nat) (h1 : dk_kd k1 = 0) (h2 : dk_kd k2 = 5)  : ∀ (n : Nat) (x4 : Int32) (x5 : Int32) (S : dk_S), dk_J p l e R s m args below meth c g 7 dk_qi 18 [(0, .ref (g.1 29)), (1, .ref (g.1 k1)), (2, .ref (g.1 k2)), (4, .int x4), (5, .int x5)] [] S (fX2_offOf_L18 k1 k2 n x4 x5 S) some := by
  subst hR
  intro n
  induction n with
  | zero =>
    intro x4 x5 S
    exact dj_none
  | succ n ih =>
    intro x4 x5 S
    rw [fX2_offOf_L18]
    refine dj_iload C 4 rfl dX2_offOf_18 ?_
    refine dj_aload_n C 2 rfl dX2_offOf_20 ?_
    refine dj_geti C dl_X2_55 rfl h2 dX2_offOf_21 ?_
    refine dj_icmp_ge (tgt := 82) C dX2_offOf_24 (by decide) (fun c2 => ?_) (fun c2 => ?_)
    · refine dj_iload C 3 rfl dX2_offOf_82 ?_
      exact dj_iret C dX2_offOf_84
    · refine dj_iload C 3 rfl dX2_offOf_27 ?_
      refine dj_aload_n C 0 rfl dX2_offOf_29 ?_
      refine dj_geti C dl_X2_9 rfl dz_29 dX2_offOf_30 ?_
      refine dj_icmp_gt (tgt := 82) C dX2_offOf_33 (by decide) (fun c3 => ?_) (fun c3 => ?_)
      · refine dj_iload C 3 rfl dX2_offOf_82 ?_
        exact dj_iret C dX2_offOf_84
      · refine dj_aload_n C 1 rfl dX2_offOf_36 ?_
        refine dj_callVi (t := 0) (As := []) C dw_X2_58 ⟨_, _, rfl⟩ (by decide) h1 (ct_X0_stride l g k1 S h1) ⟨Nat.le_of_ble_eq_true rfl, Nat.le_of_ble_eq_true rfl⟩ rfl (Nat.le_of_ble_eq_true rfl) rfl dX2_offOf_37 (fun r4 => ?_)
        refine dj_pop C dX2_offOf_40 rfl ?_
        refine dj_aload_n C 1 rfl dX2_offOf_41 ?_
        refine dj_geti C dl_X2_62 rfl h1 dX2_offOf_42 ?_
        refine dj_dia 56 [] (fun y5 => ?_) (fun hd5 => ?_)
        · refine dj_istore (lv2 := [(0, .ref (g.1 29)), (1, .ref (g.1 k1)), (2, .ref (g.1 k2)), (4, .int x4), (5, .int x5), (6, .int y5)]) C [1, 2, 3, 4, 5, 0] dX2_offOf_56 (by decide) rfl ?_
          refine dj_iload C 3 rfl dX2_offOf_58 ?_
          refine dj_iload C 5 rfl dX2_offOf_60 ?_
          refine dj_aload_n C 2 rfl dX2_offOf_62 ?_
          refine dj_getr (r := 1) (k2 := k2 + 1) C dl_X2_47 rfl h2 rfl dX2_offOf_63 ?_
          refine dj_iload C 4 rfl dX2_offOf_66 ?_
          refine dj_iald (n := 60) C (dt_5_1 h2) (by decide) dX2_offOf_68 ?_
          refine dj_isub C dX2_offOf_69 ?_
          refine dj_callSi (As := [.int (y5 - (r4.2.1 (k2 + 1) x5.toNatClampNeg))]) C dw_X2_68 (ct_J9_abs_0f7a4 l g (y5 - (r4.2.1 (k2 + 1) x5.toNatClampNeg)) r4.2) ⟨Nat.le_of_ble_eq_true rfl, Nat.le_of_ble_eq_true rfl⟩ rfl (Nat.le_of_ble_eq_true rfl) rfl dX2_offOf_70 (fun r6 => ?_)
          refine dj_iadd C dX2_offOf_73 ?_
          refine dj_lti (fun y7 => ?_)
          refine dj_istore (lv2 := [(0, .ref (g.1 29)), (1, .ref (g.1 k1)), (2, .ref (g.1 k2)), (4, .int y7), (5, .int x5)]) C [1, 2, 3, 0, 4] dX2_offOf_74 (by decide) rfl ?_
          refine dj_iinc (lv2 := [(0, .ref (g.1 29)), (1, .ref (g.1 k1)), (2, .ref (g.1 k2)), (4, .int y7), (5, .int (x5 + 1))]) C 4 rfl [1, 2, 3, 4, 0] dX2_offOf_76 dc_iconst_1 (by decide) rfl ?_
          refine dj_goto (tgt := 18) C dX2_offOf_79 (by decide) ?_
          exact ih y7 (x5 + 1) r6.2
        · refine dj_ltite ?_
          refine dj_if_ne (tgt := 55) C dX2_offOf_45 (by decide) (fun c8 => ?_) (fun c8 => ?_)
          · refine dj_iconst C dX2_offOf_55 dc_iconst_0 ?_
            exact hd5 _
          · refine dj_aload_n C 1 rfl dX2_offOf_48 ?_
            refine dj_geti C dl_X2_65 rfl h1 dX2_offOf_49 ?_
            refine dj_goto (tgt := 56) C dX2_offOf_52 (by decide) ?_
            exact hd5 _
set_option maxRecDepth 100000 in
set_option maxHeartbeats 4000000 in
theorem ct_X2_offOf (l : Launch) (g : dk_G) (k1 : Nat) (k2 : Nat) (x3 : Int32) (S : dk_S) (h1 : dk_kd k1 = 0) (h2 : dk_kd k2 = 5) : dk_M l g yX2_offOf cX2_offOf 7 (some .int) 3 65 [.ref (g.1 29), .ref (g.1 k1), .ref (g.1 k2), .int x3] S (fX2_offOf k1 k2 x3 S) dk_qi := by
  refine dk_enter "DuckWalk$Guess" (by decide +kernel) rfl (Nat.le_of_ble_eq_true rfl) [(0, .ref (g.1 29)), (1, .ref (g.1 k1)), (2, .ref (g.1 k2)), (3, .int x3)] rfl ?_
  intro p e s m args below meth c C
  unfold fX2_offOf
  refine dj_aload_n C 1 rfl dX2_offOf_0 ?_
  refine dj_iload_n C 3 rfl dX2_offOf_1 ?_
  refine dj_aload_n C 2 rfl dX2_offOf_2 ?_
  refine dj_getr (r := 1) (k2 := k2 + 1) C dl_X2_47 rfl h2 rfl dX2_offOf_3 ?_
  refine dj_iconst C dX2_offOf_6 dc_iconst_0 ?_
  refine dj_ialdn (n := 60) (j := 0) C (dt_5_1 h2) (by decide) (by decide) (by decide) dX2_offOf_7 ?_
  refine dj_iconst C dX2_offOf_8 dc_iconst_0 ?_
  refine dj_callVv (t := 0) (As := [.int x3, .int (S.1 (k2 + 1) 0), .int 0]) C dw_X2_52 ⟨_, _, rfl⟩ (by decide) h1 (ct_X0_begin l g k1 x3 (S.1 (k2 + 1) 0) 0 S h1) ⟨Nat.le_of_ble_eq_true rfl, Nat.le_of_ble_eq_true rfl⟩ rfl (Nat.le_of_ble_eq_true rfl) rfl dX2_offOf_9 (fun r1 => ?_)
  refine dj_iconst C dX2_offOf_12 dc_iconst_0 ?_
  refine dj_istore (lv2 := [(0, .ref (g.1 29)), (1, .ref (g.1 k1)), (2, .ref (g.1 k2)), (4, .int 0)]) C [1, 2, 3, 0] dX2_offOf_13 (by decide) rfl ?_
  refine dj_iconst C dX2_offOf_15 dc_iconst_1 ?_
  refine dj_istore (lv2 := [(0, .ref (g.1 29)), (1, .ref (g.1 k1)), (2, .ref (g.1 k2)), (4, .int 0), (5, .int 1)]) C [1, 2, 3, 4, 0] dX2_offOf_16 (by decide) rfl ?_
  refine jX2_offOf_L18 C rfl k1 k2 h1 h2 dk_FU 0 1 r1
noncomputable def fX2_weigh (x1 : Int32) (x2 : Int32) (x3 : Int32) (S : dk_S) : Option (dk_S) := dk_lt (fun t1 : dk_S => (if x1 = (t1.1 29 0) then dk_lt (dk_si t1 29 2 ((t1.1 29 2) + 1)) (fun S4 => if x3 ≤ 0 then dk_lt (dk_si S4 29 3 ((S4.1 29 3) + 0)) (fun S6 => some S6) else dk_lt (dk_si S4 29 3 ((S4.1 29 3) + 1)) (fun S7 => some S7)) else some t1 : Option (dk_S))) (fun k2 => if (S.1 29 0) ≤ x1 then k2 S else dk_lt (dk_si S 29 0 x1) (fun S9 => dk_lt (dk_si S9 29 1 ((10 * x2) + x3)) (fun S10 => dk_lt (dk_si S10 29 2 0) (fun S11 => dk_lt (dk_si S11 29 3 0) (fun S12 => k2 S12)))))
set_option maxRecDepth 100000 in
set_option maxHeartbeats 4000000 in
theorem ct_X2_weigh (l : Launch) (g : dk_G) (x1 : Int32) (x2 : Int32) (x3 : Int32) (S : dk_S)  : dk_M l g yX2_weigh cX2_weigh 4 none 0 0 [.ref (g.1 29), .int x1, .int x2, .int x3] S (fX2_weigh x1 x2 x3 S) dk_qv := by
  refine dk_enter "DuckWalk$Guess" (by decide +kernel) rfl (Nat.le_of_ble_eq_true rfl) [(0, .ref (g.1 29)), (1, .int x1), (2, .int x2), (3, .int x3)] rfl ?_
  intro p e s m args below meth c C
  unfold fX2_weigh
  refine dj_iload_n C 1 rfl dX2_weigh_0 ?_
  refine dj_aload_n C 0 rfl dX2_weigh_1 ?_
  refine dj_geti C dl_X2_9 rfl dz_29 dX2_weigh_2 ?_
  refine dj_join 33 (fun t1 : dk_S => [(0, .ref (g.1 29)), (1, .int x1), (3, .int x3)]) (fun t1 : dk_S => []) (fun t1 : dk_S => t1) (fun t1 => ?_) (fun k2 hk2 => ?_)
  · refine dj_iload_n C 1 rfl dX2_weigh_33 ?_
    refine dj_aload_n C 0 rfl dX2_weigh_34 ?_
    refine dj_geti C dl_X2_9 rfl dz_29 dX2_weigh_35 ?_
    refine dj_icmp_ne (tgt := 69) C dX2_weigh_38 (by decide) (fun c3 => ?_) (fun c3 => ?_)
    · exact dj_vret C dX2_weigh_69
    · refine dj_aload_n C 0 rfl dX2_weigh_41 ?_
      refine dj_dup C dX2_weigh_42 rfl ?_
      refine dj_geti C dl_X2_18 rfl dz_29 dX2_weigh_43 ?_
      refine dj_iconst C dX2_weigh_46 dc_iconst_1 ?_
      refine dj_iadd C dX2_weigh_47 ?_
      refine dj_puti C dl_X2_18 dp_2_2 rfl dz_29 dX2_weigh_48 (fun S4 => ?_)
      refine dj_aload_n C 0 rfl dX2_weigh_51 ?_
      refine dj_dup C dX2_weigh_52 rfl ?_
      refine dj_geti C dl_X2_21 rfl dz_29 dX2_weigh_53 ?_
      refine dj_iload_n C 2 rfl dX2_weigh_56 ?_
      refine dj_if_le (tgt := 64) C dX2_weigh_57 (by decide) (fun c5 => ?_) (fun c5 => ?_)
      · refine dj_iconst C dX2_weigh_64 dc_iconst_0 ?_
        refine dj_iadd C dX2_weigh_65 ?_
        refine dj_puti C dl_X2_21 dp_2_3 rfl dz_29 dX2_weigh_66 (fun S6 => ?_)
        exact dj_vret C dX2_weigh_69
      · refine dj_iconst C dX2_weigh_60 dc_iconst_1 ?_
        refine dj_goto (tgt := 65) C dX2_weigh_61 (by decide) ?_
        refine dj_iadd C dX2_weigh_65 ?_
        refine dj_puti C dl_X2_21 dp_2_3 rfl dz_29 dX2_weigh_66 (fun S7 => ?_)
        exact dj_vret C dX2_weigh_69
  · refine dj_icmp_ge (tgt := 33) C dX2_weigh_5 (by decide) (fun c8 => ?_) (fun c8 => ?_)
    · refine dj_sub (lv2 := [(0, .ref (g.1 29)), (1, .int x1), (3, .int x3)]) [0, 1, 3] rfl ?_
      exact hk2 S
    · refine dj_aload_n C 0 rfl dX2_weigh_8 ?_
      refine dj_iload_n C 1 rfl dX2_weigh_9 ?_
      refine dj_puti C dl_X2_9 dp_2_0 rfl dz_29 dX2_weigh_10 (fun S9 => ?_)
      refine dj_aload_n C 0 rfl dX2_weigh_13 ?_
      refine dj_bipush C dX2_weigh_14 dc_bipush_10 ?_
      refine dj_iload_n C 2 rfl dX2_weigh_16 ?_
      refine dj_imul C dX2_weigh_17 ?_
      refine dj_iload_n C 3 rfl dX2_weigh_18 ?_
      refine dj_iadd C dX2_weigh_19 ?_
      refine dj_puti C dl_X2_15 dp_2_1 rfl dz_29 dX2_weigh_20 (fun S10 => ?_)
      refine dj_aload_n C 0 rfl dX2_weigh_23 ?_
      refine dj_iconst C dX2_weigh_24 dc_iconst_0 ?_
      refine dj_puti C dl_X2_18 dp_2_2 rfl dz_29 dX2_weigh_25 (fun S11 => ?_)
      refine dj_aload_n C 0 rfl dX2_weigh_28 ?_
      refine dj_iconst C dX2_weigh_29 dc_iconst_0 ?_
      refine dj_puti C dl_X2_21 dp_2_3 rfl dz_29 dX2_weigh_30 (fun S12 => ?_)
      refine dj_sub (lv2 := [(0, .ref (g.1 29)), (1, .int x1), (3, .int x3)]) [0, 1, 3] rfl ?_
      exact hk2 S12
noncomputable def fX2_search_L27 (k1 : Nat) (k2 : Nat) (x3 : Int32) (kx65 : dk_S → Option (dk_S)) : Nat → Int32 → dk_S → Option (dk_S)
  | 0, _, _ => none
  | n + 1, x4, S => if 9 < x4 then kx65 S else dk_lt (dk_si S (k1 + 2) 4 x4) (fun S6 => (fX2_offOf k1 k2 x3 S6).bind (fun r7 => (fX2_weigh r7.1 x3 x4 r7.2).bind (fun r8 => fX2_search_L27 k1 k2 x3 kx65 n (x4 + 1) r8)))
noncomputable def fX2_search_L18 (k1 : Nat) (k2 : Nat) : Nat → Int32 → dk_S → Option (dk_S)
  | 0, _, _ => none
  | n + 1, x3, S => if 100 ≤ x3 then some S else fX2_search_L27 k1 k2 x3 (fun t4 : dk_S => fX2_search_L18 k1 k2 n (x3 + 1) t4) dk_FU 0 S
noncomputable def fX2_search (k1 : Nat) (k2 : Nat) (S : dk_S) : Option (dk_S) := dk_lt (dk_si S 29 0 2147483647) (fun S1 => dk_lt (dk_si S1 (k1 + 2) 5 0) (fun S2 => fX2_search_L18 k1 k2 dk_FU 0 S2))
set_option maxRecDepth 100000 in
set_option maxHeartbeats 4000000 in
theorem jX2_search_L27 {p : Program} {l : Launch} {e : Env} {R : Room} {s : State} {m : MethodId} {args : Array Value} {below : List Frame} {meth : Method} {c : Code} {g : dk_G} (C : dk_C p l e R s m args below meth c g cX2_search "DuckWalk$Guess" 5 none) (hR : R = { frames := 4, cells := 0, slots := 0, locals := 91 }) (k1 : Nat) (k2 : Nat) (x3 : Int32) (kx65 : dk_S → Option (dk_S)) (h1 : dk_kd k1 = 0) (h2 : dk_kd k2 = 5) (hkx65 : ∀ t : dk_S, dk_J p l e R s m args below meth c g 5 dk_qv 65 [(0, .ref (g.1 29)), (1, .ref (g.1 k1)), (2, .ref (g.1 k2)), (3, .int x3)] [] t (kx65 t) some) : ∀ (n : Nat) (x4 : Int32) (S : dk_S), dk_J p l e R s m args below meth c g 5 dk_qv 27 [(0, .ref (g.1 29)), (1, .ref (g.1 k1)), (2, .ref (g.1 k2)), (3, .int x3), (4, .int x4)] [] S (fX2_search_L27 k1 k2 x3 kx65 n x4 S) some := by
  subst hR
  intro n
  induction n with
  | zero =>
    intro x4 S
    exact dj_none
  | succ n ih =>
    intro x4 S
    rw [fX2_search_L27]
    refine dj_iload C 4 rfl dX2_search_27 ?_
    refine dj_bipush C dX2_search_29 dc_bipush_9 ?_
    refine dj_icmp_gt (tgt := 65) C dX2_search_31 (by decide) (fun c5 => ?_) (fun c5 => ?_)
    · refine dj_sub (lv2 := [(0, .ref (g.1 29)), (1, .ref (g.1 k1)), (2, .ref (g.1 k2)), (3, .int x3)]) [0, 1, 2, 3] rfl ?_
      exact hkx65 S
    · refine dj_aload_n C 1 rfl dX2_search_34 ?_
      refine dj_getr (r := 1) (k2 := k1 + 1) C dl_X2_27 rfl h1 rfl dX2_search_35 ?_
      refine dj_getr (r := 1) (k2 := k1 + 2) C dl_X2_33 rfl (dt_0_1 h1) rfl dX2_search_38 ?_
      refine dj_iconst C dX2_search_41 dc_iconst_4 ?_
      refine dj_iload C 4 rfl dX2_search_42 ?_
      refine dj_iastn (n := 6) (j := 4) C (dt_0_2 h1) (by decide) (by decide) (by decide) dX2_search_44 (fun S6 => ?_)
      refine dj_aload_n C 0 rfl dX2_search_45 ?_
      refine dj_aload_n C 0 rfl dX2_search_46 ?_
      refine dj_aload_n C 1 rfl dX2_search_47 ?_
      refine dj_aload_n C 2 rfl dX2_search_48 ?_
      refine dj_iload_n C 3 rfl dX2_search_49 ?_
      refine dj_callVi (t := 2) (As := [.ref (g.1 k1), .ref (g.1 k2), .int x3]) C dw_X2_39 ⟨_, _, rfl⟩ (by decide) dz_29 (ct_X2_offOf l g k1 k2 x3 S6 h1 h2) ⟨Nat.le_of_ble_eq_true rfl, Nat.le_of_ble_eq_true rfl⟩ rfl (Nat.le_of_ble_eq_true rfl) rfl dX2_search_50 (fun r7 => ?_)
      refine dj_iload_n C 3 rfl dX2_search_53 ?_
      refine dj_iload C 4 rfl dX2_search_54 ?_
      refine dj_callVv (t := 2) (As := [.int r7.1, .int x3, .int x4]) C dw_X2_43 ⟨_, _, rfl⟩ (by decide) dz_29 (ct_X2_weigh l g r7.1 x3 x4 r7.2) ⟨Nat.le_of_ble_eq_true rfl, Nat.le_of_ble_eq_true rfl⟩ rfl (Nat.le_of_ble_eq_true rfl) rfl dX2_search_56 (fun r8 => ?_)
      refine dj_iinc (lv2 := [(0, .ref (g.1 29)), (1, .ref (g.1 k1)), (2, .ref (g.1 k2)), (3, .int x3), (4, .int (x4 + 1))]) C 4 rfl [1, 2, 3, 4, 0] dX2_search_59 dc_iconst_1 (by decide) rfl ?_
      refine dj_goto (tgt := 27) C dX2_search_62 (by decide) ?_
      exact ih (x4 + 1) r8
set_option maxRecDepth 100000 in
set_option maxHeartbeats 4000000 in
theorem jX2_search_L18 {p : Program} {l : Launch} {e : Env} {R : Room} {s : State} {m : MethodId} {args : Array Value} {below : List Frame} {meth : Method} {c : Code} {g : dk_G} (C : dk_C p l e R s m args below meth c g cX2_search "DuckWalk$Guess" 5 none) (hR : R = { frames := 4, cells := 0, slots := 0, locals := 91 }) (k1 : Nat) (k2 : Nat) (h1 : dk_kd k1 = 0) (h2 : dk_kd k2 = 5)  : ∀ (n : Nat) (x3 : Int32) (S : dk_S), dk_J p l e R s m args below meth c g 5 dk_qv 18 [(0, .ref (g.1 29)), (1, .ref (g.1 k1)), (2, .ref (g.1 k2)), (3, .int x3)] [] S (fX2_search_L18 k1 k2 n x3 S) some := by
  subst hR
  intro n
  induction n with
  | zero =>
    intro x3 S
    exact dj_none
  | succ n ih =>
    intro x3 S
    rw [fX2_search_L18]
    refine dj_iload_n C 3 rfl dX2_search_18 ?_
    refine dj_bipush C dX2_search_19 dc_bipush_100 ?_
    refine dj_icmp_ge (tgt := 71) C dX2_search_21 (by decide) (fun c3 => ?_) (fun c3 => ?_)
    · exact dj_vret C dX2_search_71
    · refine dj_iconst C dX2_search_24 dc_iconst_0 ?_
      refine dj_istore (lv2 := [(0, .ref (g.1 29)), (1, .ref (g.1 k1)), (2, .ref (g.1 k2)), (3, .int x3), (4, .int 0)]) C [1, 2, 3, 4, 0] dX2_search_25 (by decide) rfl ?_
      refine jX2_search_L27 C rfl k1 k2 x3 _ h1 h2 (fun t4 => ?_) dk_FU 0 S
      · refine dj_iinc (lv2 := [(0, .ref (g.1 29)), (1, .ref (g.1 k1)), (2, .ref (g.1 k2)), (3, .int (x3 + 1))]) C 3 rfl [1, 2, 3, 0] dX2_search_65 dc_iconst_1 (by decide) rfl ?_
        refine dj_goto (tgt := 18) C dX2_search_68 (by decide) ?_
        exact ih (x3 + 1) t4
set_option maxRecDepth 100000 in
set_option maxHeartbeats 4000000 in
theorem ct_X2_search (l : Launch) (g : dk_G) (k1 : Nat) (k2 : Nat) (S : dk_S) (h1 : dk_kd k1 = 0) (h2 : dk_kd k2 = 5) : dk_M l g yX2_search cX2_search 5 none 4 91 [.ref (g.1 29), .ref (g.1 k1), .ref (g.1 k2)] S (fX2_search k1 k2 S) dk_qv := by
  refine dk_enter "DuckWalk$Guess" (by decide +kernel) rfl (Nat.le_of_ble_eq_true rfl) [(0, .ref (g.1 29)), (1, .ref (g.1 k1)), (2, .ref (g.1 k2))] rfl ?_
  intro p e s m args below meth c C
  unfold fX2_search
  refine dj_aload_n C 0 rfl dX2_search_0 ?_
  refine dj_ldc C (dk_m3 204 rfl rfl) dX2_search_1 ?_
  refine dj_puti C dl_X2_9 dp_2_0 rfl dz_29 dX2_search_3 (fun S1 => ?_)
  refine dj_aload_n C 1 rfl dX2_search_6 ?_
  refine dj_getr (r := 1) (k2 := k1 + 1) C dl_X2_27 rfl h1 rfl dX2_search_7 ?_
  refine dj_getr (r := 1) (k2 := k1 + 2) C dl_X2_33 rfl (dt_0_1 h1) rfl dX2_search_10 ?_
  refine dj_iconst C dX2_search_13 dc_iconst_5 ?_
  refine dj_iconst C dX2_search_14 dc_iconst_0 ?_
  refine dj_iastn (n := 6) (j := 5) C (dt_0_2 h1) (by decide) (by decide) (by decide) dX2_search_15 (fun S2 => ?_)
  refine dj_iconst C dX2_search_16 dc_iconst_0 ?_
  refine dj_istore_n (lv2 := [(0, .ref (g.1 29)), (1, .ref (g.1 k1)), (2, .ref (g.1 k2)), (3, .int 0)]) C [1, 2, 3, 0] dX2_search_17 rfl (by decide) rfl ?_
  refine jX2_search_L18 C rfl k1 k2 h1 h2 dk_FU 0 S2
noncomputable def fJ7_fill_53178_L5 (k0 : Nat) (n0 : Nat) (x1 : Int32) (x3 : Int32) : Nat → Int32 → dk_S → Option (dk_S)
  | 0, _, _ => none
  | n + 1, x2, S => if x3 ≤ x2 then some S else dk_gd (dk_in x2 n0) (dk_lt (dk_si S k0 x2.toNatClampNeg x1) (fun S3 => fJ7_fill_53178_L5 k0 n0 x1 x3 n (x2 + 1) S3))
noncomputable def fJ7_fill_53178 (k0 : Nat) (n0 : Nat) (x1 : Int32) (S : dk_S) : Option (dk_S) := dk_lt (Int32.ofNat n0) (fun y1 : Int32 => fJ7_fill_53178_L5 k0 n0 x1 y1 dk_FU 0 S)
set_option maxRecDepth 100000 in
set_option maxHeartbeats 4000000 in
theorem jJ7_fill_53178_L5 {p : Program} {l : Launch} {e : Env} {R : Room} {s : State} {m : MethodId} {args : Array Value} {below : List Frame} {meth : Method} {c : Code} {g : dk_G} (C : dk_C p l e R s m args below meth c g cJ7_fill_53178 "java/util/Arrays" 4 none) (hR : R = { frames := 0, cells := 0, slots := 0, locals := 0 }) (k0 : Nat) (n0 : Nat) (x1 : Int32) (x3 : Int32) (h0 : dk_kd k0 = 1000 + n0) (hn0 : n0 < 1000)  : ∀ (n : Nat) (x2 : Int32) (S : dk_S), dk_J p l e R s m args below meth c g 4 dk_qv 5 [(0, .ref (g.1 k0)), (1, .int x1), (2, .int x2), (3, .int x3)] [] S (fJ7_fill_53178_L5 k0 n0 x1 x3 n x2 S) some := by
  subst hR
  intro n
  induction n with
  | zero =>
    intro x2 S
    exact dj_none
  | succ n ih =>
    intro x2 S
    rw [fJ7_fill_53178_L5]
    refine dj_iload_n C 2 rfl dJ7_fill_53178_5 ?_
    refine dj_iload_n C 3 rfl dJ7_fill_53178_6 ?_
    refine dj_icmp_ge (tgt := 20) C dJ7_fill_53178_7 (by decide) (fun c2 => ?_) (fun c2 => ?_)
    · exact dj_vret C dJ7_fill_53178_20
    · refine dj_aload_n C 0 rfl dJ7_fill_53178_10 ?_
      refine dj_iload_n C 2 rfl dJ7_fill_53178_11 ?_
      refine dj_iload_n C 1 rfl dJ7_fill_53178_12 ?_
      refine dj_iast (n := n0) C h0 hn0 dJ7_fill_53178_13 (fun S3 => ?_)
      refine dj_iinc (lv2 := [(0, .ref (g.1 k0)), (1, .int x1), (2, .int (x2 + 1)), (3, .int x3)]) C 2 rfl [1, 2, 0, 3] dJ7_fill_53178_14 dc_iconst_1 (by decide) rfl ?_
      refine dj_goto (tgt := 5) C dJ7_fill_53178_17 (by decide) ?_
      exact ih (x2 + 1) S3
set_option maxRecDepth 100000 in
set_option maxHeartbeats 4000000 in
theorem ct_J7_fill_53178 (l : Launch) (g : dk_G) (k0 : Nat) (n0 : Nat) (x1 : Int32) (S : dk_S) (h0 : dk_kd k0 = 1000 + n0) (hn0 : n0 < 1000) : dk_M l g yJ7_fill_53178 cJ7_fill_53178 4 none 0 0 [.ref (g.1 k0), .int x1] S (fJ7_fill_53178 k0 n0 x1 S) dk_qv := by
  refine dk_enter "java/util/Arrays" (by decide +kernel) rfl (Nat.le_of_ble_eq_true rfl) [(0, .ref (g.1 k0)), (1, .int x1)] rfl ?_
  intro p e s m args below meth c C
  unfold fJ7_fill_53178
  refine dj_iconst C dJ7_fill_53178_0 dc_iconst_0 ?_
  refine dj_istore_n (lv2 := [(0, .ref (g.1 k0)), (1, .int x1), (2, .int 0)]) C [1, 2, 0] dJ7_fill_53178_1 rfl (by decide) rfl ?_
  refine dj_aload_n C 0 rfl dJ7_fill_53178_2 ?_
  refine dj_alen (n := n0) C h0 hn0 rfl dJ7_fill_53178_3 ?_
  refine dj_lti (fun y1 => ?_)
  refine dj_istore_n (lv2 := [(0, .ref (g.1 k0)), (1, .int x1), (2, .int 0), (3, .int y1)]) C [1, 2, 3, 0] dJ7_fill_53178_4 rfl (by decide) rfl ?_
  refine jJ7_fill_53178_L5 C rfl k0 n0 x1 y1 h0 hn0 dk_FU 0 S
noncomputable def fX3_clear (k0 : Nat) (S : dk_S) : Option (dk_S) := (fJ7_fill_53178 (k0 + 1) 100 0 S).bind (fun r1 => dk_lt (dk_si r1 k0 1 1) (fun S2 => some S2))
set_option maxRecDepth 100000 in
set_option maxHeartbeats 4000000 in
theorem ct_X3_clear (l : Launch) (g : dk_G) (k0 : Nat) (S : dk_S) (h0 : dk_kd k0 = 3) : dk_M l g yX3_clear cX3_clear 1 none 1 23 [.ref (g.1 k0)] S (fX3_clear k0 S) dk_qv := by
  refine dk_enter "DuckWalk$Plank" (by decide +kernel) rfl (Nat.le_of_ble_eq_true rfl) [(0, .ref (g.1 k0))] rfl ?_
  intro p e s m args below meth c C
  unfold fX3_clear
  refine dj_aload_n C 0 rfl dX3_clear_0 ?_
  refine dj_getr (r := 1) (k2 := k0 + 1) C dl_X3_9 rfl h0 rfl dX3_clear_1 ?_
  refine dj_iconst C dX3_clear_4 dc_iconst_0 ?_
  refine dj_callSv (As := [.ref (g.1 (k0 + 1)), .int 0]) C dw_X3_23 (ct_J7_fill_53178 l g (k0 + 1) 100 0 S (dt_3_1 h0) (by decide)) ⟨Nat.le_of_ble_eq_true rfl, Nat.le_of_ble_eq_true rfl⟩ rfl (Nat.le_of_ble_eq_true rfl) rfl dX3_clear_5 (fun r1 => ?_)
  refine dj_aload_n C 0 rfl dX3_clear_8 ?_
  refine dj_iconst C dX3_clear_9 dc_iconst_1 ?_
  refine dj_puti C dl_X3_15 dp_3_1 rfl h0 dX3_clear_10 (fun S2 => ?_)
  exact dj_vret C dX3_clear_13
noncomputable def fX3_digestOn_L30 (k0 : Nat) : Nat → Int64 → Int32 → dk_S → Option (Int64 × dk_S)
  | 0, _, _, _ => none
  | n + 1, x3, x5, S => if 100 ≤ x5 then some (x3, S) else dk_gd (dk_in x5 100) (dk_lt ((31 * x3) + ((S.1 (k0 + 1) x5.toNatClampNeg).toInt64)) (fun y4 : Int64 => fX3_digestOn_L30 k0 n y4 (x5 + 1) S))
noncomputable def fX3_digestOn (k0 : Nat) (x1 : Int64) (S : dk_S) : Option (Int64 × dk_S) := if (S.1 k0 2) = 0 then some ((31 * x1) - 1, S) else dk_lt ((31 * x1) + ((S.1 k0 1).toInt64)) (fun y2 : Int64 => fX3_digestOn_L30 k0 dk_FU y2 0 S)
set_option maxRecDepth 100000 in
set_option maxHeartbeats 4000000 in
theorem jX3_digestOn_L30 {p : Program} {l : Launch} {e : Env} {R : Room} {s : State} {m : MethodId} {args : Array Value} {below : List Frame} {meth : Method} {c : Code} {g : dk_G} (C : dk_C p l e R s m args below meth c g cX3_digestOn "DuckWalk$Plank" 6 (some .long)) (hR : R = { frames := 0, cells := 0, slots := 0, locals := 0 }) (k0 : Nat) (h0 : dk_kd k0 = 3)  : ∀ (n : Nat) (x3 : Int64) (x5 : Int32) (S : dk_S), dk_J p l e R s m args below meth c g 6 dk_ql 30 [(0, .ref (g.1 k0)), (3, .long x3), (5, .int x5)] [] S (fX3_digestOn_L30 k0 n x3 x5 S) some := by
  subst hR
  intro n
  induction n with
  | zero =>
    intro x3 x5 S
    exact dj_none
  | succ n ih =>
    intro x3 x5 S
    rw [fX3_digestOn_L30]
    refine dj_iload C 2 rfl dX3_digestOn_30 ?_
    refine dj_bipush C dX3_digestOn_32 dc_bipush_100 ?_
    refine dj_icmp_ge (tgt := 58) C dX3_digestOn_34 (by decide) (fun c3 => ?_) (fun c3 => ?_)
    · refine dj_lload_n C 1 rfl dX3_digestOn_58 ?_
      exact dj_lret C dX3_digestOn_59
    · refine dj_ldc2 C (dk_m4 104 rfl rfl) dX3_digestOn_37 ?_
      refine dj_lload_n C 1 rfl dX3_digestOn_40 ?_
      refine dj_lmul C dX3_digestOn_41 ?_
      refine dj_aload_n C 0 rfl dX3_digestOn_42 ?_
      refine dj_getr (r := 1) (k2 := k0 + 1) C dl_X3_9 rfl h0 rfl dX3_digestOn_43 ?_
      refine dj_iload C 2 rfl dX3_digestOn_46 ?_
      refine dj_iald (n := 100) C (dt_3_1 h0) (by decide) dX3_digestOn_48 ?_
      refine dj_i2l C dX3_digestOn_49 ?_
      refine dj_ladd C dX3_digestOn_50 ?_
      refine dj_ltl (fun y4 => ?_)
      refine dj_lstore_n (lv2 := [(0, .ref (g.1 k0)), (3, .long y4), (5, .int x5)]) C [1, 0, 2] dX3_digestOn_51 rfl (by decide) rfl ?_
      refine dj_iinc (lv2 := [(0, .ref (g.1 k0)), (3, .long y4), (5, .int (x5 + 1))]) C 2 rfl [1, 2, 0] dX3_digestOn_52 dc_iconst_1 (by decide) rfl ?_
      refine dj_goto (tgt := 30) C dX3_digestOn_55 (by decide) ?_
      exact ih y4 (x5 + 1) S
set_option maxRecDepth 100000 in
set_option maxHeartbeats 4000000 in
theorem ct_X3_digestOn (l : Launch) (g : dk_G) (k0 : Nat) (x1 : Int64) (S : dk_S) (h0 : dk_kd k0 = 3) : dk_M l g yX3_digestOn cX3_digestOn 6 (some .long) 0 0 [.ref (g.1 k0), .long x1] S (fX3_digestOn k0 x1 S) dk_ql := by
  refine dk_enter "DuckWalk$Plank" (by decide +kernel) rfl (Nat.le_of_ble_eq_true rfl) [(0, .ref (g.1 k0)), (1, .long x1)] rfl ?_
  intro p e s m args below meth c C
  unfold fX3_digestOn
  refine dj_aload_n C 0 rfl dX3_digestOn_0 ?_
  refine dj_geti C dl_X3_19 rfl h0 dX3_digestOn_1 ?_
  refine dj_if_ne (tgt := 15) C dX3_digestOn_4 (by decide) (fun c1 => ?_) (fun c1 => ?_)
  · refine dj_ldc2 C (dk_m4 104 rfl rfl) dX3_digestOn_15 ?_
    refine dj_lload_n C 1 rfl dX3_digestOn_18 ?_
    refine dj_lmul C dX3_digestOn_19 ?_
    refine dj_aload_n C 0 rfl dX3_digestOn_20 ?_
    refine dj_geti C dl_X3_15 rfl h0 dX3_digestOn_21 ?_
    refine dj_i2l C dX3_digestOn_24 ?_
    refine dj_ladd C dX3_digestOn_25 ?_
    refine dj_ltl (fun y2 => ?_)
    refine dj_lstore_n (lv2 := [(0, .ref (g.1 k0)), (3, .long y2)]) C [1, 0] dX3_digestOn_26 rfl (by decide) rfl ?_
    refine dj_iconst C dX3_digestOn_27 dc_iconst_0 ?_
    refine dj_istore (lv2 := [(0, .ref (g.1 k0)), (3, .long y2), (5, .int 0)]) C [1, 2, 0] dX3_digestOn_28 (by decide) rfl ?_
    refine jX3_digestOn_L30 C rfl k0 h0 dk_FU y2 0 S
  · refine dj_ldc2 C (dk_m4 104 rfl rfl) dX3_digestOn_7 ?_
    refine dj_lload_n C 1 rfl dX3_digestOn_10 ?_
    refine dj_lmul C dX3_digestOn_11 ?_
    refine dj_lconst (v := 1) C dX3_digestOn_12 rfl ?_
    refine dj_lsub C dX3_digestOn_13 ?_
    exact dj_lret C dX3_digestOn_14
noncomputable def fX4_faultAt (x1 : Int32) (S : dk_S) : Option (Int32 × dk_S) := dk_lt (dk_si S 11 3 x1) (fun S1 => some (x1, S1))
set_option maxRecDepth 100000 in
set_option maxHeartbeats 4000000 in
theorem ct_X4_faultAt (l : Launch) (g : dk_G) (x1 : Int32) (S : dk_S)  : dk_M l g yX4_faultAt cX4_faultAt 2 (some .int) 0 0 [.ref (g.1 11), .int x1] S (fX4_faultAt x1 S) dk_qi := by
  refine dk_enter "DuckWalk$Reader" (by decide +kernel) rfl (Nat.le_of_ble_eq_true rfl) [(0, .ref (g.1 11)), (1, .int x1)] rfl ?_
  intro p e s m args below meth c C
  unfold fX4_faultAt
  refine dj_aload_n C 0 rfl dX4_faultAt_0 ?_
  refine dj_iload_n C 1 rfl dX4_faultAt_1 ?_
  refine dj_puti C dl_X4_29 dp_4_3 rfl dz_11 dX4_faultAt_2 (fun S1 => ?_)
  refine dj_iload_n C 1 rfl dX4_faultAt_5 ?_
  exact dj_iret C dX4_faultAt_6
noncomputable def fX4_sizeOf (x0 : Int32) (S : dk_S) : Option (Int32 × dk_S) := if x0 = 104 then some (2, S) else if x0 = 105 then some (4, S) else if x0 = 106 then some (5, S) else if x0 = 108 then some (3, S) else if x0 = 114 then some (1, S) else if x0 = 119 then some (0, S) else some ((-9), S)
set_option maxRecDepth 100000 in
set_option maxHeartbeats 4000000 in
theorem ct_X4_sizeOf (l : Launch) (g : dk_G) (x0 : Int32) (S : dk_S)  : dk_M l g yX4_sizeOf cX4_sizeOf 1 (some .int) 0 0 [.int x0] S (fX4_sizeOf x0 S) dk_qi := by
  refine dk_enter "DuckWalk$Reader" (by decide +kernel) rfl (Nat.le_of_ble_eq_true rfl) [(0, .int x0)] rfl ?_
  intro p e s m args below meth c C
  unfold fX4_sizeOf
  refine dj_iload_n C 0 rfl dX4_sizeOf_0 ?_
  refine dj_ite (fun h1 => ?_) (fun h1 => ?_)
  · refine dj_tsw_in (off := 83) (tgt := 84) C dX4_sizeOf_1 (by rw [h1]; decide) (by rw [h1]; decide) (by rw [h1]; rfl) (by decide) ?_
    refine dj_iconst C dX4_sizeOf_84 dc_iconst_2 ?_
    exact dj_iret C dX4_sizeOf_85
  · refine dj_ite (fun h2 => ?_) (fun h2 => ?_)
    · refine dj_tsw_in (off := 87) (tgt := 88) C dX4_sizeOf_1 (by rw [h2]; decide) (by rw [h2]; decide) (by rw [h2]; rfl) (by decide) ?_
      refine dj_iconst C dX4_sizeOf_88 dc_iconst_4 ?_
      exact dj_iret C dX4_sizeOf_89
    · refine dj_ite (fun h3 => ?_) (fun h3 => ?_)
      · refine dj_tsw_in (off := 89) (tgt := 90) C dX4_sizeOf_1 (by rw [h3]; decide) (by rw [h3]; decide) (by rw [h3]; rfl) (by decide) ?_
        refine dj_iconst C dX4_sizeOf_90 dc_iconst_5 ?_
        exact dj_iret C dX4_sizeOf_91
      · refine dj_ite (fun h4 => ?_) (fun h4 => ?_)
        · refine dj_tsw_in (off := 85) (tgt := 86) C dX4_sizeOf_1 (by rw [h4]; decide) (by rw [h4]; decide) (by rw [h4]; rfl) (by decide) ?_
          refine dj_iconst C dX4_sizeOf_86 dc_iconst_3 ?_
          exact dj_iret C dX4_sizeOf_87
        · refine dj_ite (fun h5 => ?_) (fun h5 => ?_)
          · refine dj_tsw_in (off := 81) (tgt := 82) C dX4_sizeOf_1 (by rw [h5]; decide) (by rw [h5]; decide) (by rw [h5]; rfl) (by decide) ?_
            refine dj_iconst C dX4_sizeOf_82 dc_iconst_1 ?_
            exact dj_iret C dX4_sizeOf_83
          · refine dj_ite (fun h6 => ?_) (fun h6 => ?_)
            · refine dj_tsw_in (off := 79) (tgt := 80) C dX4_sizeOf_1 (by rw [h6]; decide) (by rw [h6]; decide) (by rw [h6]; rfl) (by decide) ?_
              refine dj_iconst C dX4_sizeOf_80 dc_iconst_0 ?_
              exact dj_iret C dX4_sizeOf_81
            · refine dj_tsw_d (tgt := 92) C dX4_sizeOf_1 ?_ (by decide) ?_
              · have e104 : x0.toInt ≠ 104 := fun e => h1 (dk_teq e (by decide))
                have e105 : x0.toInt ≠ 105 := fun e => h2 (dk_teq e (by decide))
                have e106 : x0.toInt ≠ 106 := fun e => h3 (dk_teq e (by decide))
                have e108 : x0.toInt ≠ 108 := fun e => h4 (dk_teq e (by decide))
                have e114 : x0.toInt ≠ 114 := fun e => h5 (dk_teq e (by decide))
                have e119 : x0.toInt ≠ 119 := fun e => h6 (dk_teq e (by decide))
                rcases (show x0.toInt < 104 ∨ 119 < x0.toInt ∨ x0.toInt = 107 ∨ x0.toInt = 109 ∨ x0.toInt = 110 ∨ x0.toInt = 111 ∨ x0.toInt = 112 ∨ x0.toInt = 113 ∨ x0.toInt = 115 ∨ x0.toInt = 116 ∨ x0.toInt = 117 ∨ x0.toInt = 118 by omega) with h | h | h | h | h | h | h | h | h | h | h | h
                · exact Or.inl h
                · exact Or.inr (Or.inl h)
                · exact Or.inr (Or.inr (by rw [h]; rfl))
                · exact Or.inr (Or.inr (by rw [h]; rfl))
                · exact Or.inr (Or.inr (by rw [h]; rfl))
                · exact Or.inr (Or.inr (by rw [h]; rfl))
                · exact Or.inr (Or.inr (by rw [h]; rfl))
                · exact Or.inr (Or.inr (by rw [h]; rfl))
                · exact Or.inr (Or.inr (by rw [h]; rfl))
                · exact Or.inr (Or.inr (by rw [h]; rfl))
                · exact Or.inr (Or.inr (by rw [h]; rfl))
                · exact Or.inr (Or.inr (by rw [h]; rfl))
              · refine dj_bipush C dX4_sizeOf_92 dc_bipush_m9 ?_
                exact dj_iret C dX4_sizeOf_94
