noncomputable def fX6_has (k0 : Nat) (x1 : Int32) (S : dk_S) : Option (Int32 × dk_S) := if x1 < 0 then some (0, S) else if (S.1 k0 1) ≤ x1 then some (0, S) else some (1, S)
set_option maxRecDepth 100000 in
set_option maxHeartbeats 4000000 in
theorem ct_X6_has (l : Launch) (g : dk_G) (k0 : Nat) (x1 : Int32) (S : dk_S) (h0 : dk_kd k0 = 6) : dk_M l g yX6_has cX6_has 2 (some .boolean) 0 0 [.ref (g.1 k0), .int x1] S (fX6_has k0 x1 S) dk_qi := by
  refine dk_enter "DuckWalk$Script" (by decide +kernel) rfl (Nat.le_of_ble_eq_true rfl) [(0, .ref (g.1 k0)), (1, .int x1)] rfl ?_
  intro p e s m args below meth c C
  unfold fX6_has
  refine dj_iload_n C 1 rfl dX6_has_0 ?_
  refine dj_if_lt (tgt := 16) C dX6_has_1 (by decide) (fun c1 => ?_) (fun c1 => ?_)
  · refine dj_iconst C dX6_has_16 dc_iconst_0 ?_
    exact dj_zret C rfl dX6_has_17
  · refine dj_iload_n C 1 rfl dX6_has_4 ?_
    refine dj_aload_n C 0 rfl dX6_has_5 ?_
    refine dj_geti C dl_X6_15 rfl h0 dX6_has_6 ?_
    refine dj_icmp_ge (tgt := 16) C dX6_has_9 (by decide) (fun c2 => ?_) (fun c2 => ?_)
    · refine dj_iconst C dX6_has_16 dc_iconst_0 ?_
      exact dj_zret C rfl dX6_has_17
    · refine dj_iconst C dX6_has_12 dc_iconst_1 ?_
      refine dj_goto (tgt := 17) C dX6_has_13 (by decide) ?_
      exact dj_zret C rfl dX6_has_17
noncomputable def fX6_sign (k0 : Nat) (x1 : Int32) (S : dk_S) : Option (Int32 × dk_S) := (fX6_has k0 x1 S).bind (fun r1 => if r1.1 = 0 then some (1000, r1.2) else dk_gd (dk_in x1 80) (some (r1.2.1 (k0 + 1) x1.toNatClampNeg, r1.2)))
set_option maxRecDepth 100000 in
set_option maxHeartbeats 4000000 in
theorem ct_X6_sign (l : Launch) (g : dk_G) (k0 : Nat) (x1 : Int32) (S : dk_S) (h0 : dk_kd k0 = 6) : dk_M l g yX6_sign cX6_sign 2 (some .int) 1 21 [.ref (g.1 k0), .int x1] S (fX6_sign k0 x1 S) dk_qi := by
  refine dk_enter "DuckWalk$Script" (by decide +kernel) rfl (Nat.le_of_ble_eq_true rfl) [(0, .ref (g.1 k0)), (1, .int x1)] rfl ?_
  intro p e s m args below meth c C
  unfold fX6_sign
  refine dj_aload_n C 0 rfl dX6_sign_0 ?_
  refine dj_iload_n C 1 rfl dX6_sign_1 ?_
  refine dj_callVi (t := 6) (As := [.int x1]) C dw_X6_25 ⟨_, _, rfl⟩ (by decide) h0 (ct_X6_has l g k0 x1 S h0) ⟨Nat.le_of_ble_eq_true rfl, Nat.le_of_ble_eq_true rfl⟩ rfl (Nat.le_of_ble_eq_true rfl) rfl dX6_sign_2 (fun r1 => ?_)
  refine dj_if_eq (tgt := 17) C dX6_sign_5 (by decide) (fun c2 => ?_) (fun c2 => ?_)
  · refine dj_sipush C dX6_sign_17 dc_sipush_1000 ?_
    exact dj_iret C dX6_sign_20
  · refine dj_aload_n C 0 rfl dX6_sign_8 ?_
    refine dj_getr (r := 1) (k2 := k0 + 1) C dl_X6_9 rfl h0 rfl dX6_sign_9 ?_
    refine dj_iload_n C 1 rfl dX6_sign_12 ?_
    refine dj_bald (n := 80) C (dt_6_1 h0) (by decide) dX6_sign_13 ?_
    refine dj_goto (tgt := 20) C dX6_sign_14 (by decide) ?_
    exact dj_iret C dX6_sign_20
noncomputable def fX6_figure (k0 : Nat) (x1 : Int32) (S : dk_S) : Option (Int32 × dk_S) := (fX6_sign k0 x1 S).bind (fun r1 => (fX8_isOutside r1.1 48 57 r1.2).bind (fun r2 => if r2.1 = 0 then some (r1.1 - 48, r2.2) else some ((-1), r2.2)))
set_option maxRecDepth 100000 in
set_option maxHeartbeats 4000000 in
theorem ct_X6_figure (l : Launch) (g : dk_G) (k0 : Nat) (x1 : Int32) (S : dk_S) (h0 : dk_kd k0 = 6) : dk_M l g yX6_figure cX6_figure 3 (some .int) 2 42 [.ref (g.1 k0), .int x1] S (fX6_figure k0 x1 S) dk_qi := by
  refine dk_enter "DuckWalk$Script" (by decide +kernel) rfl (Nat.le_of_ble_eq_true rfl) [(0, .ref (g.1 k0)), (1, .int x1)] rfl ?_
  intro p e s m args below meth c C
  unfold fX6_figure
  refine dj_aload_n C 0 rfl dX6_figure_0 ?_
  refine dj_iload_n C 1 rfl dX6_figure_1 ?_
  refine dj_callVi (t := 6) (As := [.int x1]) C dw_X6_29 ⟨_, _, rfl⟩ (by decide) h0 (ct_X6_sign l g k0 x1 S h0) ⟨Nat.le_of_ble_eq_true rfl, Nat.le_of_ble_eq_true rfl⟩ rfl (Nat.le_of_ble_eq_true rfl) rfl dX6_figure_2 (fun r1 => ?_)
  refine dj_istore_n (lv2 := [(2, .int r1.1)]) C [0] dX6_figure_5 rfl (by decide) rfl ?_
  refine dj_iload_n C 0 rfl dX6_figure_6 ?_
  refine dj_bipush C dX6_figure_7 dc_bipush_48 ?_
  refine dj_bipush C dX6_figure_9 dc_bipush_57 ?_
  refine dj_callNi (As := [.int r1.1, .int 48, .int 57]) C dw_X6_33 (ct_X8_isOutside l g r1.1 48 57 r1.2) ⟨Nat.le_of_ble_eq_true rfl, Nat.le_of_ble_eq_true rfl⟩ rfl (Nat.le_of_ble_eq_true rfl) rfl dX6_figure_11 (fun r2 => ?_)
  refine dj_if_eq (tgt := 21) C dX6_figure_14 (by decide) (fun c3 => ?_) (fun c3 => ?_)
  · refine dj_iload_n C 0 rfl dX6_figure_21 ?_
    refine dj_bipush C dX6_figure_22 dc_bipush_48 ?_
    refine dj_isub C dX6_figure_24 ?_
    exact dj_iret C dX6_figure_25
  · refine dj_iconst C dX6_figure_17 dc_iconst_m1 ?_
    refine dj_goto (tgt := 25) C dX6_figure_18 (by decide) ?_
    exact dj_iret C dX6_figure_25
noncomputable def fX4_readSize (k1 : Nat) (x2 : Int32) (S : dk_S) : Option (Int32 × dk_S) := (fX6_sign k1 x2 S).bind (fun r1 => (fX4_sizeOf r1.1 r1.2).bind (fun r2 => if r2.1 = (-9) then (fX4_faultAt x2 r2.2).bind (fun r20 => some (r20.1, r20.2)) else dk_lt (if r2.1 < 4 then 0 else 1) (fun y4 : Int32 => dk_lt (fun t5 : dk_S => ((fX6_figure k1 (x2 + 1) t5).bind (fun r7 => dk_lt (if y4 = 0 then 1 else 0) (fun y8 : Int32 => if y8 ≤ r7.1 then dk_gd (dk_in r2.1 6) (dk_lt (dk_si r7.2 13 r2.1.toNatClampNeg r7.1) (fun S10 => dk_lt (dk_si S10 12 1 ((S10.1 12 1) &&& ((1 <<< (r2.1 &&& 31)) ^^^ (-1)))) (fun S11 => some (x2 + 2, S11)))) else (fX4_faultAt (x2 + 1) r7.2).bind (fun r12 => some (r12.1, r12.2)))) : Option (Int32 × dk_S))) (fun k6 => if y4 = 0 then (fX6_sign k1 (x2 + 1) r2.2).bind (fun r15 => if r15.1 = 63 then dk_gd (dk_in r2.1 6) (dk_lt (dk_si r15.2 13 r2.1.toNatClampNeg 5) (fun S17 => dk_lt (dk_si S17 12 1 ((S17.1 12 1) ||| (1 <<< (r2.1 &&& 31)))) (fun S18 => some (x2 + 2, S18)))) else k6 r15.2) else k6 r2.2))))
set_option maxRecDepth 100000 in
set_option maxHeartbeats 4000000 in
theorem ct_X4_readSize (l : Launch) (g : dk_G) (k1 : Nat) (x2 : Int32) (S : dk_S) (h1 : dk_kd k1 = 6) : dk_M l g yX4_readSize cX4_readSize 6 (some .int) 3 64 [.ref (g.1 11), .ref (g.1 k1), .int x2] S (fX4_readSize k1 x2 S) dk_qi := by
  refine dk_enter "DuckWalk$Reader" (by decide +kernel) rfl (Nat.le_of_ble_eq_true rfl) [(0, .ref (g.1 11)), (1, .ref (g.1 k1)), (2, .int x2)] rfl ?_
  intro p e s m args below meth c C
  unfold fX4_readSize
  refine dj_aload_n C 1 rfl dX4_readSize_0 ?_
  refine dj_iload_n C 2 rfl dX4_readSize_1 ?_
  refine dj_callVi (t := 6) (As := [.int x2]) C dw_X4_40 ⟨_, _, rfl⟩ (by decide) h1 (ct_X6_sign l g k1 x2 S h1) ⟨Nat.le_of_ble_eq_true rfl, Nat.le_of_ble_eq_true rfl⟩ rfl (Nat.le_of_ble_eq_true rfl) rfl dX4_readSize_2 (fun r1 => ?_)
  refine dj_callSi (As := [.int r1.1]) C dw_X4_55 (ct_X4_sizeOf l g r1.1 r1.2) ⟨Nat.le_of_ble_eq_true rfl, Nat.le_of_ble_eq_true rfl⟩ rfl (Nat.le_of_ble_eq_true rfl) rfl dX4_readSize_5 (fun r2 => ?_)
  refine dj_istore_n (lv2 := [(0, .ref (g.1 11)), (1, .ref (g.1 k1)), (2, .int x2), (3, .int r2.1)]) C [1, 2, 3, 0] dX4_readSize_8 rfl (by decide) rfl ?_
  refine dj_iload_n C 3 rfl dX4_readSize_9 ?_
  refine dj_bipush C dX4_readSize_10 dc_bipush_m9 ?_
  refine dj_icmp_ne (tgt := 21) C dX4_readSize_12 (by decide) (fun c3 => ?_) (fun c3 => ?_)
  · refine dj_iload_n C 3 rfl dX4_readSize_21 ?_
    refine dj_iconst C dX4_readSize_22 dc_iconst_4 ?_
    refine dj_dia 31 [] (fun y4 => ?_) (fun hd4 => ?_)
    · refine dj_istore (lv2 := [(0, .ref (g.1 11)), (1, .ref (g.1 k1)), (2, .int x2), (3, .int r2.1), (4, .int y4)]) C [1, 2, 3, 4, 0] dX4_readSize_31 (by decide) rfl ?_
      refine dj_iload C 4 rfl dX4_readSize_33 ?_
      refine dj_join 79 (fun t5 : dk_S => [(0, .ref (g.1 11)), (1, .ref (g.1 k1)), (2, .int x2), (3, .int r2.1), (4, .int y4)]) (fun t5 : dk_S => []) (fun t5 : dk_S => t5) (fun t5 => ?_) (fun k6 hk6 => ?_)
      · refine dj_aload_n C 1 rfl dX4_readSize_79 ?_
        refine dj_iload_n C 2 rfl dX4_readSize_80 ?_
        refine dj_iconst C dX4_readSize_81 dc_iconst_1 ?_
        refine dj_iadd C dX4_readSize_82 ?_
        refine dj_callVi (t := 6) (As := [.int (x2 + 1)]) C dw_X4_68 ⟨_, _, rfl⟩ (by decide) h1 (ct_X6_figure l g k1 (x2 + 1) t5 h1) ⟨Nat.le_of_ble_eq_true rfl, Nat.le_of_ble_eq_true rfl⟩ rfl (Nat.le_of_ble_eq_true rfl) rfl dX4_readSize_83 (fun r7 => ?_)
        refine dj_istore (lv2 := [(0, .ref (g.1 11)), (2, .int x2), (3, .int r2.1), (4, .int y4), (5, .int r7.1)]) C [1, 3, 4, 5, 0] dX4_readSize_86 (by decide) rfl ?_
        refine dj_iload C 4 rfl dX4_readSize_88 ?_
        refine dj_iload C 3 rfl dX4_readSize_90 ?_
        refine dj_dia 100 [.int r7.1] (fun y8 => ?_) (fun hd8 => ?_)
        · refine dj_icmp_ge (tgt := 111) C dX4_readSize_100 (by decide) (fun c9 => ?_) (fun c9 => ?_)
          · refine dj_aload_n C 0 rfl dX4_readSize_111 ?_
            refine dj_getr (r := 1) (k2 := 12) C dl_X4_12 rfl dz_11 rfl dX4_readSize_112 ?_
            refine dj_getr (r := 1) (k2 := 13) C dl_X4_61 rfl dz_12 rfl dX4_readSize_115 ?_
            refine dj_iload_n C 2 rfl dX4_readSize_118 ?_
            refine dj_iload C 4 rfl dX4_readSize_119 ?_
            refine dj_iast (n := 6) C dz_13 (by decide) dX4_readSize_121 (fun S10 => ?_)
            refine dj_aload_n C 0 rfl dX4_readSize_122 ?_
            refine dj_getr (r := 1) (k2 := 12) C dl_X4_12 rfl dz_11 rfl dX4_readSize_123 ?_
            refine dj_dup C dX4_readSize_126 rfl ?_
            refine dj_geti C dl_X4_65 rfl dz_12 dX4_readSize_127 ?_
            refine dj_iconst C dX4_readSize_130 dc_iconst_1 ?_
            refine dj_iload_n C 2 rfl dX4_readSize_131 ?_
            refine dj_ishl C dX4_readSize_132 ?_
            refine dj_iconst C dX4_readSize_133 dc_iconst_m1 ?_
            refine dj_ixor C dX4_readSize_134 ?_
            refine dj_iand C dX4_readSize_135 ?_
            refine dj_puti C dl_X4_65 dp_1_1 rfl dz_12 dX4_readSize_136 (fun S11 => ?_)
            refine dj_iload_n C 1 rfl dX4_readSize_139 ?_
            refine dj_iconst C dX4_readSize_140 dc_iconst_2 ?_
            refine dj_iadd C dX4_readSize_141 ?_
            exact dj_iret C dX4_readSize_142
          · refine dj_aload_n C 0 rfl dX4_readSize_103 ?_
            refine dj_iload_n C 1 rfl dX4_readSize_104 ?_
            refine dj_iconst C dX4_readSize_105 dc_iconst_1 ?_
            refine dj_iadd C dX4_readSize_106 ?_
            refine dj_callVi (t := 4) (As := [.int (x2 + 1)]) C dw_X4_58 ⟨_, _, rfl⟩ (by decide) dz_11 (ct_X4_faultAt l g (x2 + 1) r7.2) ⟨Nat.le_of_ble_eq_true rfl, Nat.le_of_ble_eq_true rfl⟩ rfl (Nat.le_of_ble_eq_true rfl) rfl dX4_readSize_107 (fun r12 => ?_)
            exact dj_iret C dX4_readSize_110
        · refine dj_ltite ?_
          refine dj_if_eq (tgt := 99) C dX4_readSize_92 (by decide) (fun c13 => ?_) (fun c13 => ?_)
          · refine dj_iconst C dX4_readSize_99 dc_iconst_1 ?_
            exact hd8 _
          · refine dj_iconst C dX4_readSize_95 dc_iconst_0 ?_
            refine dj_goto (tgt := 100) C dX4_readSize_96 (by decide) ?_
            exact hd8 _
      · refine dj_if_ne (tgt := 79) C dX4_readSize_35 (by decide) (fun c14 => ?_) (fun c14 => ?_)
        · exact hk6 r2.2
        · refine dj_aload_n C 1 rfl dX4_readSize_38 ?_
          refine dj_iload_n C 2 rfl dX4_readSize_39 ?_
          refine dj_iconst C dX4_readSize_40 dc_iconst_1 ?_
          refine dj_iadd C dX4_readSize_41 ?_
          refine dj_callVi (t := 6) (As := [.int (x2 + 1)]) C dw_X4_40 ⟨_, _, rfl⟩ (by decide) h1 (ct_X6_sign l g k1 (x2 + 1) r2.2 h1) ⟨Nat.le_of_ble_eq_true rfl, Nat.le_of_ble_eq_true rfl⟩ rfl (Nat.le_of_ble_eq_true rfl) rfl dX4_readSize_42 (fun r15 => ?_)
          refine dj_bipush C dX4_readSize_45 dc_bipush_63 ?_
          refine dj_icmp_ne (tgt := 79) C dX4_readSize_47 (by decide) (fun c16 => ?_) (fun c16 => ?_)
          · exact hk6 r15.2
          · refine dj_aload_n C 0 rfl dX4_readSize_50 ?_
            refine dj_getr (r := 1) (k2 := 12) C dl_X4_12 rfl dz_11 rfl dX4_readSize_51 ?_
            refine dj_getr (r := 1) (k2 := 13) C dl_X4_61 rfl dz_12 rfl dX4_readSize_54 ?_
            refine dj_iload_n C 3 rfl dX4_readSize_57 ?_
            refine dj_iconst C dX4_readSize_58 dc_iconst_5 ?_
            refine dj_iast (n := 6) C dz_13 (by decide) dX4_readSize_59 (fun S17 => ?_)
            refine dj_aload_n C 0 rfl dX4_readSize_60 ?_
            refine dj_getr (r := 1) (k2 := 12) C dl_X4_12 rfl dz_11 rfl dX4_readSize_61 ?_
            refine dj_dup C dX4_readSize_64 rfl ?_
            refine dj_geti C dl_X4_65 rfl dz_12 dX4_readSize_65 ?_
            refine dj_iconst C dX4_readSize_68 dc_iconst_1 ?_
            refine dj_iload_n C 3 rfl dX4_readSize_69 ?_
            refine dj_ishl C dX4_readSize_70 ?_
            refine dj_ior C dX4_readSize_71 ?_
            refine dj_puti C dl_X4_65 dp_1_1 rfl dz_12 dX4_readSize_72 (fun S18 => ?_)
            refine dj_iload_n C 2 rfl dX4_readSize_75 ?_
            refine dj_iconst C dX4_readSize_76 dc_iconst_2 ?_
            refine dj_iadd C dX4_readSize_77 ?_
            exact dj_iret C dX4_readSize_78
    · refine dj_ltite ?_
      refine dj_icmp_lt (tgt := 30) C dX4_readSize_23 (by decide) (fun c19 => ?_) (fun c19 => ?_)
      · refine dj_iconst C dX4_readSize_30 dc_iconst_0 ?_
        exact hd4 _
      · refine dj_iconst C dX4_readSize_26 dc_iconst_1 ?_
        refine dj_goto (tgt := 31) C dX4_readSize_27 (by decide) ?_
        exact hd4 _
  · refine dj_aload_n C 0 rfl dX4_readSize_15 ?_
    refine dj_iload_n C 2 rfl dX4_readSize_16 ?_
    refine dj_callVi (t := 4) (As := [.int x2]) C dw_X4_58 ⟨_, _, rfl⟩ (by decide) dz_11 (ct_X4_faultAt l g x2 r2.2) ⟨Nat.le_of_ble_eq_true rfl, Nat.le_of_ble_eq_true rfl⟩ rfl (Nat.le_of_ble_eq_true rfl) rfl dX4_readSize_17 (fun r20 => ?_)
    exact dj_iret C dX4_readSize_20
noncomputable def fX4_readDuck_L17 (k1 : Nat) : Nat → Int32 → Int32 → dk_S → Option (Int32 × dk_S)
  | 0, _, _, _ => none
  | n + 1, x2, x3, S => if 80 ≤ x3 then some (S.1 11 3, S) else if (S.1 k1 1) ≤ x2 then some (S.1 11 3, S) else if (S.1 11 3) = (-9) then (fX6_sign k1 x2 S).bind (fun r6 => dk_lt (fun t7 : Int32 × dk_S => (fX4_readDuck_L17 k1 n t7.1 (x3 + 1) t7.2 : Option (Int32 × dk_S))) (fun k8 => if r6.1 = 32 then k8 (x2 + 1, r6.2) else (fX4_readSize k1 x2 r6.2).bind (fun r10 => k8 (r10.1, r10.2)))) else some (S.1 11 3, S)
noncomputable def fX4_readDuck (k1 : Nat) (S : dk_S) : Option (Int32 × dk_S) := (fX1_clear 12 S).bind (fun r1 => dk_lt (dk_si r1 11 3 (-9)) (fun S2 => fX4_readDuck_L17 k1 dk_FU 0 0 S2))
set_option maxRecDepth 100000 in
set_option maxHeartbeats 4000000 in
theorem jX4_readDuck_L17 {p : Program} {l : Launch} {e : Env} {R : Room} {s : State} {m : MethodId} {args : Array Value} {below : List Frame} {meth : Method} {c : Code} {g : dk_G} (C : dk_C p l e R s m args below meth c g cX4_readDuck "DuckWalk$Reader" 4 (some .int)) (hR : R = { frames := 4, cells := 0, slots := 0, locals := 89 }) (k1 : Nat) (h1 : dk_kd k1 = 6)  : ∀ (n : Nat) (x2 : Int32) (x3 : Int32) (S : dk_S), dk_J p l e R s m args below meth c g 4 dk_qi 17 [(0, .ref (g.1 11)), (1, .ref (g.1 k1)), (2, .int x2), (3, .int x3)] [] S (fX4_readDuck_L17 k1 n x2 x3 S) some := by
  subst hR
  intro n
  induction n with
  | zero =>
    intro x2 x3 S
    exact dj_none
  | succ n ih =>
    intro x2 x3 S
    rw [fX4_readDuck_L17]
    refine dj_iload_n C 3 rfl dX4_readDuck_17 ?_
    refine dj_bipush C dX4_readDuck_18 dc_bipush_80 ?_
    refine dj_icmp_ge (tgt := 69) C dX4_readDuck_20 (by decide) (fun c3 => ?_) (fun c3 => ?_)
    · refine dj_aload_n C 0 rfl dX4_readDuck_69 ?_
      refine dj_geti C dl_X4_29 rfl dz_11 dX4_readDuck_70 ?_
      exact dj_iret C dX4_readDuck_73
    · refine dj_iload_n C 2 rfl dX4_readDuck_23 ?_
      refine dj_aload_n C 1 rfl dX4_readDuck_24 ?_
      refine dj_geti C dl_X4_35 rfl h1 dX4_readDuck_25 ?_
      refine dj_icmp_ge (tgt := 69) C dX4_readDuck_28 (by decide) (fun c4 => ?_) (fun c4 => ?_)
      · refine dj_aload_n C 0 rfl dX4_readDuck_69 ?_
        refine dj_geti C dl_X4_29 rfl dz_11 dX4_readDuck_70 ?_
        exact dj_iret C dX4_readDuck_73
      · refine dj_aload_n C 0 rfl dX4_readDuck_31 ?_
        refine dj_geti C dl_X4_29 rfl dz_11 dX4_readDuck_32 ?_
        refine dj_bipush C dX4_readDuck_35 dc_bipush_m9 ?_
        refine dj_icmp_ne (tgt := 69) C dX4_readDuck_37 (by decide) (fun c5 => ?_) (fun c5 => ?_)
        · refine dj_aload_n C 0 rfl dX4_readDuck_69 ?_
          refine dj_geti C dl_X4_29 rfl dz_11 dX4_readDuck_70 ?_
          exact dj_iret C dX4_readDuck_73
        · refine dj_aload_n C 1 rfl dX4_readDuck_40 ?_
          refine dj_iload_n C 2 rfl dX4_readDuck_41 ?_
          refine dj_callVi (t := 6) (As := [.int x2]) C dw_X4_40 ⟨_, _, rfl⟩ (by decide) h1 (ct_X6_sign l g k1 x2 S h1) ⟨Nat.le_of_ble_eq_true rfl, Nat.le_of_ble_eq_true rfl⟩ rfl (Nat.le_of_ble_eq_true rfl) rfl dX4_readDuck_42 (fun r6 => ?_)
          refine dj_bipush C dX4_readDuck_45 dc_bipush_32 ?_
          refine dj_join 62 (fun t7 : Int32 × dk_S => [(0, .ref (g.1 11)), (1, .ref (g.1 k1)), (3, .int x3)]) (fun t7 : Int32 × dk_S => [.int t7.1]) (fun t7 : Int32 × dk_S => t7.2) (fun t7 => ?_) (fun k8 hk8 => ?_)
          · refine dj_istore_n (lv2 := [(0, .ref (g.1 11)), (1, .ref (g.1 k1)), (2, .int t7.1), (3, .int x3)]) C [1, 2, 0, 3] dX4_readDuck_62 rfl (by decide) rfl ?_
            refine dj_iinc (lv2 := [(0, .ref (g.1 11)), (1, .ref (g.1 k1)), (2, .int t7.1), (3, .int (x3 + 1))]) C 3 rfl [1, 2, 3, 0] dX4_readDuck_63 dc_iconst_1 (by decide) rfl ?_
            refine dj_goto (tgt := 17) C dX4_readDuck_66 (by decide) ?_
            exact ih t7.1 (x3 + 1) t7.2
          · refine dj_icmp_ne (tgt := 56) C dX4_readDuck_47 (by decide) (fun c9 => ?_) (fun c9 => ?_)
            · refine dj_aload_n C 0 rfl dX4_readDuck_56 ?_
              refine dj_aload_n C 1 rfl dX4_readDuck_57 ?_
              refine dj_iload_n C 2 rfl dX4_readDuck_58 ?_
              refine dj_callVi (t := 4) (As := [.ref (g.1 k1), .int x2]) C dw_X4_44 ⟨_, _, rfl⟩ (by decide) dz_11 (ct_X4_readSize l g k1 x2 r6.2 h1) ⟨Nat.le_of_ble_eq_true rfl, Nat.le_of_ble_eq_true rfl⟩ rfl (Nat.le_of_ble_eq_true rfl) rfl dX4_readDuck_59 (fun r10 => ?_)
              refine dj_sub (lv2 := [(0, .ref (g.1 11)), (1, .ref (g.1 k1)), (3, .int x3)]) [0, 1, 3] rfl ?_
              exact hk8 (r10.1, r10.2)
            · refine dj_iload_n C 2 rfl dX4_readDuck_50 ?_
              refine dj_iconst C dX4_readDuck_51 dc_iconst_1 ?_
              refine dj_iadd C dX4_readDuck_52 ?_
              refine dj_goto (tgt := 62) C dX4_readDuck_53 (by decide) ?_
              refine dj_sub (lv2 := [(0, .ref (g.1 11)), (1, .ref (g.1 k1)), (3, .int x3)]) [0, 1, 3] rfl ?_
              exact hk8 (x2 + 1, r6.2)
set_option maxRecDepth 100000 in
set_option maxHeartbeats 4000000 in
theorem ct_X4_readDuck (l : Launch) (g : dk_G) (k1 : Nat) (S : dk_S) (h1 : dk_kd k1 = 6) : dk_M l g yX4_readDuck cX4_readDuck 4 (some .int) 4 89 [.ref (g.1 11), .ref (g.1 k1)] S (fX4_readDuck k1 S) dk_qi := by
  refine dk_enter "DuckWalk$Reader" (by decide +kernel) rfl (Nat.le_of_ble_eq_true rfl) [(0, .ref (g.1 11)), (1, .ref (g.1 k1))] rfl ?_
  intro p e s m args below meth c C
  unfold fX4_readDuck
  refine dj_aload_n C 0 rfl dX4_readDuck_0 ?_
  refine dj_getr (r := 1) (k2 := 12) C dl_X4_12 rfl dz_11 rfl dX4_readDuck_1 ?_
  refine dj_callVv (t := 1) (As := []) C dw_X4_32 ⟨_, _, rfl⟩ (by decide) dz_12 (ct_X1_clear l g 12 S dz_12) ⟨Nat.le_of_ble_eq_true rfl, Nat.le_of_ble_eq_true rfl⟩ rfl (Nat.le_of_ble_eq_true rfl) rfl dX4_readDuck_4 (fun r1 => ?_)
  refine dj_aload_n C 0 rfl dX4_readDuck_7 ?_
  refine dj_bipush C dX4_readDuck_8 dc_bipush_m9 ?_
  refine dj_puti C dl_X4_29 dp_4_3 rfl dz_11 dX4_readDuck_10 (fun S2 => ?_)
  refine dj_iconst C dX4_readDuck_13 dc_iconst_0 ?_
  refine dj_istore_n (lv2 := [(0, .ref (g.1 11)), (1, .ref (g.1 k1)), (2, .int 0)]) C [1, 2, 0] dX4_readDuck_14 rfl (by decide) rfl ?_
  refine dj_iconst C dX4_readDuck_15 dc_iconst_0 ?_
  refine dj_istore_n (lv2 := [(0, .ref (g.1 11)), (1, .ref (g.1 k1)), (2, .int 0), (3, .int 0)]) C [1, 2, 3, 0] dX4_readDuck_16 rfl (by decide) rfl ?_
  refine jX4_readDuck_L17 C rfl k1 h1 dk_FU 0 0 S2
noncomputable def fX4_readBump (k1 : Nat) (x2 : Int32) (S : dk_S) : Option (Int32 × dk_S) := if (S.1 11 2) < 8 then dk_lt (x2 + 1) (fun y2 : Int32 => (fX6_figure k1 y2 S).bind (fun r3 => if 0 ≤ r3.1 then (fX6_figure k1 (y2 + 1) r3.2).bind (fun r5 => dk_lt (fun t6 : Int32 × Int32 × dk_S => ((fX6_sign k1 t6.1 t6.2.2).bind (fun r8 => if r8.1 = 58 then (fX6_figure k1 (t6.1 + 1) r8.2).bind (fun r10 => if 1 ≤ r10.1 then dk_gd (dk_in t6.2.1 100) (dk_gd (dk_in t6.2.1 100) (dk_lt (dk_si r10.2 15 t6.2.1.toNatClampNeg ((r10.2.1 15 t6.2.1.toNatClampNeg) + r10.1)) (fun S12 => dk_lt (dk_si S12 11 2 ((S12.1 11 2) + 1)) (fun S13 => some ((t6.1 + 1) + 1, S13))))) else (fX4_faultAt (t6.1 + 1) r10.2).bind (fun r14 => some (r14.1, r14.2))) else (fX4_faultAt t6.1 r8.2).bind (fun r15 => some (r15.1, r15.2))) : Option (Int32 × dk_S))) (fun k7 => if r5.1 < 0 then k7 (y2 + 1, r3.1, r5.2) else (fX6_figure k1 (y2 + 1) r5.2).bind (fun r17 => dk_lt ((10 * r3.1) + r17.1) (fun y18 : Int32 => k7 ((y2 + 1) + 1, y18, r17.2))))) else (fX4_faultAt y2 r3.2).bind (fun r19 => some (r19.1, r19.2)))) else (fX4_faultAt x2 S).bind (fun r20 => some (r20.1, r20.2))
set_option maxRecDepth 100000 in
set_option maxHeartbeats 4000000 in
theorem ct_X4_readBump (l : Launch) (g : dk_G) (k1 : Nat) (x2 : Int32) (S : dk_S) (h1 : dk_kd k1 = 6) : dk_M l g yX4_readBump cX4_readBump 6 (some .int) 3 64 [.ref (g.1 11), .ref (g.1 k1), .int x2] S (fX4_readBump k1 x2 S) dk_qi := by
  refine dk_enter "DuckWalk$Reader" (by decide +kernel) rfl (Nat.le_of_ble_eq_true rfl) [(0, .ref (g.1 11)), (1, .ref (g.1 k1)), (2, .int x2)] rfl ?_
  intro p e s m args below meth c C
  unfold fX4_readBump
  refine dj_aload_n C 0 rfl dX4_readBump_0 ?_
  refine dj_geti C dl_X4_25 rfl dz_11 dX4_readBump_1 ?_
  refine dj_bipush C dX4_readBump_4 dc_bipush_8 ?_
  refine dj_icmp_lt (tgt := 15) C dX4_readBump_6 (by decide) (fun c1 => ?_) (fun c1 => ?_)
  · refine dj_iload_n C 2 rfl dX4_readBump_15 ?_
    refine dj_iconst C dX4_readBump_16 dc_iconst_1 ?_
    refine dj_iadd C dX4_readBump_17 ?_
    refine dj_lti (fun y2 => ?_)
    refine dj_istore_n (lv2 := [(0, .ref (g.1 11)), (1, .ref (g.1 k1)), (3, .int y2)]) C [1, 2, 0] dX4_readBump_18 rfl (by decide) rfl ?_
    refine dj_aload_n C 1 rfl dX4_readBump_19 ?_
    refine dj_iload_n C 2 rfl dX4_readBump_20 ?_
    refine dj_callVi (t := 6) (As := [.int y2]) C dw_X4_68 ⟨_, _, rfl⟩ (by decide) h1 (ct_X6_figure l g k1 y2 S h1) ⟨Nat.le_of_ble_eq_true rfl, Nat.le_of_ble_eq_true rfl⟩ rfl (Nat.le_of_ble_eq_true rfl) rfl dX4_readBump_21 (fun r3 => ?_)
    refine dj_istore (lv2 := [(0, .ref (g.1 11)), (1, .ref (g.1 k1)), (3, .int y2), (4, .int r3.1)]) C [1, 2, 3, 0] dX4_readBump_24 (by decide) rfl ?_
    refine dj_iload C 3 rfl dX4_readBump_26 ?_
    refine dj_if_ge (tgt := 37) C dX4_readBump_28 (by decide) (fun c4 => ?_) (fun c4 => ?_)
    · refine dj_iinc (lv2 := [(0, .ref (g.1 11)), (1, .ref (g.1 k1)), (3, .int (y2 + 1)), (4, .int r3.1)]) C 2 rfl [1, 2, 0, 3] dX4_readBump_37 dc_iconst_1 (by decide) rfl ?_
      refine dj_aload_n C 1 rfl dX4_readBump_40 ?_
      refine dj_iload_n C 2 rfl dX4_readBump_41 ?_
      refine dj_callVi (t := 6) (As := [.int (y2 + 1)]) C dw_X4_68 ⟨_, _, rfl⟩ (by decide) h1 (ct_X6_figure l g k1 (y2 + 1) r3.2 h1) ⟨Nat.le_of_ble_eq_true rfl, Nat.le_of_ble_eq_true rfl⟩ rfl (Nat.le_of_ble_eq_true rfl) rfl dX4_readBump_42 (fun r5 => ?_)
      refine dj_join 64 (fun t6 : Int32 × Int32 × dk_S => [(0, .ref (g.1 11)), (1, .ref (g.1 k1)), (3, .int t6.1), (4, .int t6.2.1)]) (fun t6 : Int32 × Int32 × dk_S => []) (fun t6 : Int32 × Int32 × dk_S => t6.2.2) (fun t6 => ?_) (fun k7 hk7 => ?_)
      · refine dj_aload_n C 1 rfl dX4_readBump_64 ?_
        refine dj_iload_n C 2 rfl dX4_readBump_65 ?_
        refine dj_callVi (t := 6) (As := [.int t6.1]) C dw_X4_40 ⟨_, _, rfl⟩ (by decide) h1 (ct_X6_sign l g k1 t6.1 t6.2.2 h1) ⟨Nat.le_of_ble_eq_true rfl, Nat.le_of_ble_eq_true rfl⟩ rfl (Nat.le_of_ble_eq_true rfl) rfl dX4_readBump_66 (fun r8 => ?_)
        refine dj_bipush C dX4_readBump_69 dc_bipush_58 ?_
        refine dj_icmp_eq (tgt := 80) C dX4_readBump_71 (by decide) (fun c9 => ?_) (fun c9 => ?_)
        · refine dj_iinc (lv2 := [(0, .ref (g.1 11)), (1, .ref (g.1 k1)), (3, .int (t6.1 + 1)), (4, .int t6.2.1)]) C 2 rfl [1, 2, 0, 3] dX4_readBump_80 dc_iconst_1 (by decide) rfl ?_
          refine dj_aload_n C 1 rfl dX4_readBump_83 ?_
          refine dj_iload_n C 2 rfl dX4_readBump_84 ?_
          refine dj_callVi (t := 6) (As := [.int (t6.1 + 1)]) C dw_X4_68 ⟨_, _, rfl⟩ (by decide) h1 (ct_X6_figure l g k1 (t6.1 + 1) r8.2 h1) ⟨Nat.le_of_ble_eq_true rfl, Nat.le_of_ble_eq_true rfl⟩ rfl (Nat.le_of_ble_eq_true rfl) rfl dX4_readBump_85 (fun r10 => ?_)
          refine dj_istore (lv2 := [(0, .ref (g.1 11)), (3, .int (t6.1 + 1)), (4, .int t6.2.1), (5, .int r10.1)]) C [1, 3, 4, 0] dX4_readBump_88 (by decide) rfl ?_
          refine dj_iload C 3 rfl dX4_readBump_90 ?_
          refine dj_iconst C dX4_readBump_92 dc_iconst_1 ?_
          refine dj_icmp_ge (tgt := 102) C dX4_readBump_93 (by decide) (fun c11 => ?_) (fun c11 => ?_)
          · refine dj_aload_n C 0 rfl dX4_readBump_102 ?_
            refine dj_getr (r := 3) (k2 := 14) C dl_X4_21 rfl dz_11 rfl dX4_readBump_103 ?_
            refine dj_getr (r := 1) (k2 := 15) C dl_X4_74 rfl dz_14 rfl dX4_readBump_106 ?_
            refine dj_iload C 2 rfl dX4_readBump_109 ?_
            refine dj_dup2 C dX4_readBump_111 rfl rfl ?_
            refine dj_iald (n := 100) C dz_15 (by decide) dX4_readBump_112 ?_
            refine dj_iload C 3 rfl dX4_readBump_113 ?_
            refine dj_iadd C dX4_readBump_115 ?_
            refine dj_iast (n := 100) C dz_15 (by decide) dX4_readBump_116 (fun S12 => ?_)
            refine dj_aload_n C 0 rfl dX4_readBump_117 ?_
            refine dj_dup C dX4_readBump_118 rfl ?_
            refine dj_geti C dl_X4_25 rfl dz_11 dX4_readBump_119 ?_
            refine dj_iconst C dX4_readBump_122 dc_iconst_1 ?_
            refine dj_iadd C dX4_readBump_123 ?_
            refine dj_puti C dl_X4_25 dp_4_2 rfl dz_11 dX4_readBump_124 (fun S13 => ?_)
            refine dj_iload_n C 1 rfl dX4_readBump_127 ?_
            refine dj_iconst C dX4_readBump_128 dc_iconst_1 ?_
            refine dj_iadd C dX4_readBump_129 ?_
            exact dj_iret C dX4_readBump_130
          · refine dj_aload_n C 0 rfl dX4_readBump_96 ?_
            refine dj_iload_n C 1 rfl dX4_readBump_97 ?_
            refine dj_callVi (t := 4) (As := [.int (t6.1 + 1)]) C dw_X4_58 ⟨_, _, rfl⟩ (by decide) dz_11 (ct_X4_faultAt l g (t6.1 + 1) r10.2) ⟨Nat.le_of_ble_eq_true rfl, Nat.le_of_ble_eq_true rfl⟩ rfl (Nat.le_of_ble_eq_true rfl) rfl dX4_readBump_98 (fun r14 => ?_)
            exact dj_iret C dX4_readBump_101
        · refine dj_aload_n C 0 rfl dX4_readBump_74 ?_
          refine dj_iload_n C 2 rfl dX4_readBump_75 ?_
          refine dj_callVi (t := 4) (As := [.int t6.1]) C dw_X4_58 ⟨_, _, rfl⟩ (by decide) dz_11 (ct_X4_faultAt l g t6.1 r8.2) ⟨Nat.le_of_ble_eq_true rfl, Nat.le_of_ble_eq_true rfl⟩ rfl (Nat.le_of_ble_eq_true rfl) rfl dX4_readBump_76 (fun r15 => ?_)
          exact dj_iret C dX4_readBump_79
      · refine dj_if_lt (tgt := 64) C dX4_readBump_45 (by decide) (fun c16 => ?_) (fun c16 => ?_)
        · exact hk7 (y2 + 1, r3.1, r5.2)
        · refine dj_bipush C dX4_readBump_48 dc_bipush_10 ?_
          refine dj_iload C 3 rfl dX4_readBump_50 ?_
          refine dj_imul C dX4_readBump_52 ?_
          refine dj_aload_n C 1 rfl dX4_readBump_53 ?_
          refine dj_iload_n C 2 rfl dX4_readBump_54 ?_
          refine dj_callVi (t := 6) (As := [.int (y2 + 1)]) C dw_X4_68 ⟨_, _, rfl⟩ (by decide) h1 (ct_X6_figure l g k1 (y2 + 1) r5.2 h1) ⟨Nat.le_of_ble_eq_true rfl, Nat.le_of_ble_eq_true rfl⟩ rfl (Nat.le_of_ble_eq_true rfl) rfl dX4_readBump_55 (fun r17 => ?_)
          refine dj_iadd C dX4_readBump_58 ?_
          refine dj_lti (fun y18 => ?_)
          refine dj_istore (lv2 := [(0, .ref (g.1 11)), (1, .ref (g.1 k1)), (3, .int (y2 + 1)), (4, .int y18)]) C [1, 2, 3, 0] dX4_readBump_59 (by decide) rfl ?_
          refine dj_iinc (lv2 := [(0, .ref (g.1 11)), (1, .ref (g.1 k1)), (3, .int ((y2 + 1) + 1)), (4, .int y18)]) C 2 rfl [1, 2, 0, 3] dX4_readBump_61 dc_iconst_1 (by decide) rfl ?_
          exact hk7 ((y2 + 1) + 1, y18, r17.2)
    · refine dj_aload_n C 0 rfl dX4_readBump_31 ?_
      refine dj_iload_n C 2 rfl dX4_readBump_32 ?_
      refine dj_callVi (t := 4) (As := [.int y2]) C dw_X4_58 ⟨_, _, rfl⟩ (by decide) dz_11 (ct_X4_faultAt l g y2 r3.2) ⟨Nat.le_of_ble_eq_true rfl, Nat.le_of_ble_eq_true rfl⟩ rfl (Nat.le_of_ble_eq_true rfl) rfl dX4_readBump_33 (fun r19 => ?_)
      exact dj_iret C dX4_readBump_36
  · refine dj_aload_n C 0 rfl dX4_readBump_9 ?_
    refine dj_iload_n C 2 rfl dX4_readBump_10 ?_
    refine dj_callVi (t := 4) (As := [.int x2]) C dw_X4_58 ⟨_, _, rfl⟩ (by decide) dz_11 (ct_X4_faultAt l g x2 S) ⟨Nat.le_of_ble_eq_true rfl, Nat.le_of_ble_eq_true rfl⟩ rfl (Nat.le_of_ble_eq_true rfl) rfl dX4_readBump_11 (fun r20 => ?_)
    exact dj_iret C dX4_readBump_14
noncomputable def fX4_readRub (k1 : Nat) (x2 : Int32) (S : dk_S) : Option (Int32 × dk_S) := (fX6_figure k1 (x2 + 1) S).bind (fun r1 => if 0 ≤ r1.1 then dk_lt (dk_si r1.2 14 1 r1.1) (fun S3 => some (x2 + 2, S3)) else (fX4_faultAt (x2 + 1) r1.2).bind (fun r4 => some (r4.1, r4.2)))
set_option maxRecDepth 100000 in
set_option maxHeartbeats 4000000 in
theorem ct_X4_readRub (l : Launch) (g : dk_G) (k1 : Nat) (x2 : Int32) (S : dk_S) (h1 : dk_kd k1 = 6) : dk_M l g yX4_readRub cX4_readRub 4 (some .int) 3 64 [.ref (g.1 11), .ref (g.1 k1), .int x2] S (fX4_readRub k1 x2 S) dk_qi := by
  refine dk_enter "DuckWalk$Reader" (by decide +kernel) rfl (Nat.le_of_ble_eq_true rfl) [(0, .ref (g.1 11)), (1, .ref (g.1 k1)), (2, .int x2)] rfl ?_
  intro p e s m args below meth c C
  unfold fX4_readRub
  refine dj_aload_n C 1 rfl dX4_readRub_0 ?_
  refine dj_iload_n C 2 rfl dX4_readRub_1 ?_
  refine dj_iconst C dX4_readRub_2 dc_iconst_1 ?_
  refine dj_iadd C dX4_readRub_3 ?_
  refine dj_callVi (t := 6) (As := [.int (x2 + 1)]) C dw_X4_68 ⟨_, _, rfl⟩ (by decide) h1 (ct_X6_figure l g k1 (x2 + 1) S h1) ⟨Nat.le_of_ble_eq_true rfl, Nat.le_of_ble_eq_true rfl⟩ rfl (Nat.le_of_ble_eq_true rfl) rfl dX4_readRub_4 (fun r1 => ?_)
  refine dj_istore_n (lv2 := [(0, .ref (g.1 11)), (2, .int x2), (3, .int r1.1)]) C [1, 3, 0] dX4_readRub_7 rfl (by decide) rfl ?_
  refine dj_iload_n C 2 rfl dX4_readRub_8 ?_
  refine dj_if_ge (tgt := 20) C dX4_readRub_9 (by decide) (fun c2 => ?_) (fun c2 => ?_)
  · refine dj_aload_n C 0 rfl dX4_readRub_20 ?_
    refine dj_getr (r := 3) (k2 := 14) C dl_X4_21 rfl dz_11 rfl dX4_readRub_21 ?_
    refine dj_iload_n C 2 rfl dX4_readRub_24 ?_
    refine dj_puti C dl_X4_71 dp_3_1 rfl dz_14 dX4_readRub_25 (fun S3 => ?_)
    refine dj_iload_n C 1 rfl dX4_readRub_28 ?_
    refine dj_iconst C dX4_readRub_29 dc_iconst_2 ?_
    refine dj_iadd C dX4_readRub_30 ?_
    exact dj_iret C dX4_readRub_31
  · refine dj_aload_n C 0 rfl dX4_readRub_12 ?_
    refine dj_iload_n C 1 rfl dX4_readRub_13 ?_
    refine dj_iconst C dX4_readRub_14 dc_iconst_1 ?_
    refine dj_iadd C dX4_readRub_15 ?_
    refine dj_callVi (t := 4) (As := [.int (x2 + 1)]) C dw_X4_58 ⟨_, _, rfl⟩ (by decide) dz_11 (ct_X4_faultAt l g (x2 + 1) r1.2) ⟨Nat.le_of_ble_eq_true rfl, Nat.le_of_ble_eq_true rfl⟩ rfl (Nat.le_of_ble_eq_true rfl) rfl dX4_readRub_16 (fun r4 => ?_)
    exact dj_iret C dX4_readRub_19
noncomputable def fX4_readPlank_L22 (k1 : Nat) : Nat → Int32 → Int32 → dk_S → Option (Int32 × dk_S)
  | 0, _, _, _ => none
  | n + 1, x2, x3, S => if 80 ≤ x3 then some (S.1 11 3, S) else if (S.1 k1 1) ≤ x2 then some (S.1 11 3, S) else if (S.1 11 3) = (-9) then (fX6_sign k1 x2 S).bind (fun r7 => dk_lt (fun t8 : Int32 × dk_S => (fX4_readPlank_L22 k1 n t8.1 (x3 + 1) t8.2 : Option (Int32 × dk_S))) (fun k9 => if r7.1 = 32 then k9 (x2 + 1, r7.2) else if r7.1 = 117 then (fX4_readRub k1 x2 r7.2).bind (fun r15 => k9 (r15.1, r15.2)) else if r7.1 = 98 then (fX4_readBump k1 x2 r7.2).bind (fun r14 => k9 (r14.1, r14.2)) else dk_lt (dk_si r7.2 11 3 x2) (fun S13 => k9 (x2, S13)))) else some (S.1 11 3, S)
noncomputable def fX4_readPlank (k1 : Nat) (S : dk_S) : Option (Int32 × dk_S) := (fX3_clear 14 S).bind (fun r1 => dk_lt (dk_si r1 11 2 0) (fun S2 => dk_lt (dk_si S2 11 3 (-9)) (fun S3 => fX4_readPlank_L22 k1 dk_FU 0 0 S3)))
set_option maxRecDepth 100000 in
set_option maxHeartbeats 4000000 in
theorem jX4_readPlank_L22 {p : Program} {l : Launch} {e : Env} {R : Room} {s : State} {m : MethodId} {args : Array Value} {below : List Frame} {meth : Method} {c : Code} {g : dk_G} (C : dk_C p l e R s m args below meth c g cX4_readPlank "DuckWalk$Reader" 5 (some .int)) (hR : R = { frames := 4, cells := 0, slots := 0, locals := 89 }) (k1 : Nat) (h1 : dk_kd k1 = 6)  : ∀ (n : Nat) (x2 : Int32) (x3 : Int32) (S : dk_S), dk_J p l e R s m args below meth c g 5 dk_qi 22 [(0, .ref (g.1 11)), (1, .ref (g.1 k1)), (2, .int x2), (3, .int x3)] [] S (fX4_readPlank_L22 k1 n x2 x3 S) some := by
  subst hR
  intro n
  induction n with
  | zero =>
    intro x2 x3 S
    exact dj_none
  | succ n ih =>
    intro x2 x3 S
    rw [fX4_readPlank_L22]
    refine dj_iload_n C 3 rfl dX4_readPlank_22 ?_
    refine dj_bipush C dX4_readPlank_23 dc_bipush_80 ?_
    refine dj_icmp_ge (tgt := 110) C dX4_readPlank_25 (by decide) (fun c4 => ?_) (fun c4 => ?_)
    · refine dj_aload_n C 0 rfl dX4_readPlank_110 ?_
      refine dj_geti C dl_X4_29 rfl dz_11 dX4_readPlank_111 ?_
      exact dj_iret C dX4_readPlank_114
    · refine dj_iload_n C 2 rfl dX4_readPlank_28 ?_
      refine dj_aload_n C 1 rfl dX4_readPlank_29 ?_
      refine dj_geti C dl_X4_35 rfl h1 dX4_readPlank_30 ?_
      refine dj_icmp_ge (tgt := 110) C dX4_readPlank_33 (by decide) (fun c5 => ?_) (fun c5 => ?_)
      · refine dj_aload_n C 0 rfl dX4_readPlank_110 ?_
        refine dj_geti C dl_X4_29 rfl dz_11 dX4_readPlank_111 ?_
        exact dj_iret C dX4_readPlank_114
      · refine dj_aload_n C 0 rfl dX4_readPlank_36 ?_
        refine dj_geti C dl_X4_29 rfl dz_11 dX4_readPlank_37 ?_
        refine dj_bipush C dX4_readPlank_40 dc_bipush_m9 ?_
        refine dj_icmp_ne (tgt := 110) C dX4_readPlank_42 (by decide) (fun c6 => ?_) (fun c6 => ?_)
        · refine dj_aload_n C 0 rfl dX4_readPlank_110 ?_
          refine dj_geti C dl_X4_29 rfl dz_11 dX4_readPlank_111 ?_
          exact dj_iret C dX4_readPlank_114
        · refine dj_aload_n C 1 rfl dX4_readPlank_45 ?_
          refine dj_iload_n C 2 rfl dX4_readPlank_46 ?_
          refine dj_callVi (t := 6) (As := [.int x2]) C dw_X4_40 ⟨_, _, rfl⟩ (by decide) h1 (ct_X6_sign l g k1 x2 S h1) ⟨Nat.le_of_ble_eq_true rfl, Nat.le_of_ble_eq_true rfl⟩ rfl (Nat.le_of_ble_eq_true rfl) rfl dX4_readPlank_47 (fun r7 => ?_)
          refine dj_istore (lv2 := [(0, .ref (g.1 11)), (1, .ref (g.1 k1)), (2, .int x2), (3, .int x3), (4, .int r7.1)]) C [1, 2, 3, 4, 0] dX4_readPlank_50 (by decide) rfl ?_
          refine dj_iload C 4 rfl dX4_readPlank_52 ?_
          refine dj_bipush C dX4_readPlank_54 dc_bipush_32 ?_
          refine dj_join 104 (fun t8 : Int32 × dk_S => [(0, .ref (g.1 11)), (1, .ref (g.1 k1)), (2, .int t8.1), (3, .int x3)]) (fun t8 : Int32 × dk_S => []) (fun t8 : Int32 × dk_S => t8.2) (fun t8 => ?_) (fun k9 hk9 => ?_)
          · refine dj_iinc (lv2 := [(0, .ref (g.1 11)), (1, .ref (g.1 k1)), (2, .int t8.1), (3, .int (x3 + 1))]) C 3 rfl [1, 2, 3, 0] dX4_readPlank_104 dc_iconst_1 (by decide) rfl ?_
            refine dj_goto (tgt := 22) C dX4_readPlank_107 (by decide) ?_
            exact ih t8.1 (x3 + 1) t8.2
          · refine dj_icmp_ne (tgt := 65) C dX4_readPlank_56 (by decide) (fun c10 => ?_) (fun c10 => ?_)
            · refine dj_iload C 4 rfl dX4_readPlank_65 ?_
              refine dj_bipush C dX4_readPlank_67 dc_bipush_117 ?_
              refine dj_icmp_ne (tgt := 82) C dX4_readPlank_69 (by decide) (fun c11 => ?_) (fun c11 => ?_)
              · refine dj_iload C 4 rfl dX4_readPlank_82 ?_
                refine dj_bipush C dX4_readPlank_84 dc_bipush_98 ?_
                refine dj_icmp_ne (tgt := 99) C dX4_readPlank_86 (by decide) (fun c12 => ?_) (fun c12 => ?_)
                · refine dj_aload_n C 0 rfl dX4_readPlank_99 ?_
                  refine dj_iload_n C 2 rfl dX4_readPlank_100 ?_
                  refine dj_puti C dl_X4_29 dp_4_3 rfl dz_11 dX4_readPlank_101 (fun S13 => ?_)
                  refine dj_sub (lv2 := [(0, .ref (g.1 11)), (1, .ref (g.1 k1)), (2, .int x2), (3, .int x3)]) [0, 1, 2, 3] rfl ?_
                  exact hk9 (x2, S13)
                · refine dj_aload_n C 0 rfl dX4_readPlank_89 ?_
                  refine dj_aload_n C 1 rfl dX4_readPlank_90 ?_
                  refine dj_iload_n C 2 rfl dX4_readPlank_91 ?_
                  refine dj_callVi (t := 4) (As := [.ref (g.1 k1), .int x2]) C dw_X4_52 ⟨_, _, rfl⟩ (by decide) dz_11 (ct_X4_readBump l g k1 x2 r7.2 h1) ⟨Nat.le_of_ble_eq_true rfl, Nat.le_of_ble_eq_true rfl⟩ rfl (Nat.le_of_ble_eq_true rfl) rfl dX4_readPlank_92 (fun r14 => ?_)
                  refine dj_istore_n (lv2 := [(0, .ref (g.1 11)), (1, .ref (g.1 k1)), (2, .int r14.1), (3, .int x3)]) C [1, 2, 0, 3] dX4_readPlank_95 rfl (by decide) rfl ?_
                  refine dj_goto (tgt := 104) C dX4_readPlank_96 (by decide) ?_
                  exact hk9 (r14.1, r14.2)
              · refine dj_aload_n C 0 rfl dX4_readPlank_72 ?_
                refine dj_aload_n C 1 rfl dX4_readPlank_73 ?_
                refine dj_iload_n C 2 rfl dX4_readPlank_74 ?_
                refine dj_callVi (t := 4) (As := [.ref (g.1 k1), .int x2]) C dw_X4_49 ⟨_, _, rfl⟩ (by decide) dz_11 (ct_X4_readRub l g k1 x2 r7.2 h1) ⟨Nat.le_of_ble_eq_true rfl, Nat.le_of_ble_eq_true rfl⟩ rfl (Nat.le_of_ble_eq_true rfl) rfl dX4_readPlank_75 (fun r15 => ?_)
                refine dj_istore_n (lv2 := [(0, .ref (g.1 11)), (1, .ref (g.1 k1)), (2, .int r15.1), (3, .int x3)]) C [1, 2, 0, 3] dX4_readPlank_78 rfl (by decide) rfl ?_
                refine dj_goto (tgt := 104) C dX4_readPlank_79 (by decide) ?_
                exact hk9 (r15.1, r15.2)
            · refine dj_iinc (lv2 := [(0, .ref (g.1 11)), (1, .ref (g.1 k1)), (2, .int (x2 + 1)), (3, .int x3), (4, .int r7.1)]) C 2 rfl [1, 2, 0, 3, 4] dX4_readPlank_59 dc_iconst_1 (by decide) rfl ?_
              refine dj_goto (tgt := 104) C dX4_readPlank_62 (by decide) ?_
              refine dj_sub (lv2 := [(0, .ref (g.1 11)), (1, .ref (g.1 k1)), (2, .int (x2 + 1)), (3, .int x3)]) [0, 1, 2, 3] rfl ?_
              exact hk9 (x2 + 1, r7.2)
set_option maxRecDepth 100000 in
set_option maxHeartbeats 4000000 in
theorem ct_X4_readPlank (l : Launch) (g : dk_G) (k1 : Nat) (S : dk_S) (h1 : dk_kd k1 = 6) : dk_M l g yX4_readPlank cX4_readPlank 5 (some .int) 4 89 [.ref (g.1 11), .ref (g.1 k1)] S (fX4_readPlank k1 S) dk_qi := by
  refine dk_enter "DuckWalk$Reader" (by decide +kernel) rfl (Nat.le_of_ble_eq_true rfl) [(0, .ref (g.1 11)), (1, .ref (g.1 k1))] rfl ?_
  intro p e s m args below meth c C
  unfold fX4_readPlank
  refine dj_aload_n C 0 rfl dX4_readPlank_0 ?_
  refine dj_getr (r := 3) (k2 := 14) C dl_X4_21 rfl dz_11 rfl dX4_readPlank_1 ?_
  refine dj_callVv (t := 3) (As := []) C dw_X4_48 ⟨_, _, rfl⟩ (by decide) dz_14 (ct_X3_clear l g 14 S dz_14) ⟨Nat.le_of_ble_eq_true rfl, Nat.le_of_ble_eq_true rfl⟩ rfl (Nat.le_of_ble_eq_true rfl) rfl dX4_readPlank_4 (fun r1 => ?_)
  refine dj_aload_n C 0 rfl dX4_readPlank_7 ?_
  refine dj_iconst C dX4_readPlank_8 dc_iconst_0 ?_
  refine dj_puti C dl_X4_25 dp_4_2 rfl dz_11 dX4_readPlank_9 (fun S2 => ?_)
  refine dj_aload_n C 0 rfl dX4_readPlank_12 ?_
  refine dj_bipush C dX4_readPlank_13 dc_bipush_m9 ?_
  refine dj_puti C dl_X4_29 dp_4_3 rfl dz_11 dX4_readPlank_15 (fun S3 => ?_)
  refine dj_iconst C dX4_readPlank_18 dc_iconst_0 ?_
  refine dj_istore_n (lv2 := [(0, .ref (g.1 11)), (1, .ref (g.1 k1)), (2, .int 0)]) C [1, 2, 0] dX4_readPlank_19 rfl (by decide) rfl ?_
  refine dj_iconst C dX4_readPlank_20 dc_iconst_0 ?_
  refine dj_istore_n (lv2 := [(0, .ref (g.1 11)), (1, .ref (g.1 k1)), (2, .int 0), (3, .int 0)]) C [1, 2, 3, 0] dX4_readPlank_21 rfl (by decide) rfl ?_
  refine jX4_readPlank_L22 C rfl k1 h1 dk_FU 0 0 S3
noncomputable def fX5_isMissing (k0 : Nat) (S : dk_S) : Option (Int32 × dk_S) := if 0 ≤ (S.1 k0 1) then some (0, S) else some (1, S)
set_option maxRecDepth 100000 in
set_option maxHeartbeats 4000000 in
theorem ct_X5_isMissing (l : Launch) (g : dk_G) (k0 : Nat) (S : dk_S) (h0 : dk_kd k0 = 5) : dk_M l g yX5_isMissing cX5_isMissing 1 (some .boolean) 0 0 [.ref (g.1 k0)] S (fX5_isMissing k0 S) dk_qi := by
  refine dk_enter "DuckWalk$Row" (by decide +kernel) rfl (Nat.le_of_ble_eq_true rfl) [(0, .ref (g.1 k0))] rfl ?_
  intro p e s m args below meth c C
  unfold fX5_isMissing
  refine dj_aload_n C 0 rfl dX5_isMissing_0 ?_
  refine dj_geti C dl_X5_15 rfl h0 dX5_isMissing_1 ?_
  refine dj_if_ge (tgt := 11) C dX5_isMissing_4 (by decide) (fun c1 => ?_) (fun c1 => ?_)
  · refine dj_iconst C dX5_isMissing_11 dc_iconst_0 ?_
    exact dj_zret C rfl dX5_isMissing_12
  · refine dj_iconst C dX5_isMissing_7 dc_iconst_1 ?_
    refine dj_goto (tgt := 12) C dX5_isMissing_8 (by decide) ?_
    exact dj_zret C rfl dX5_isMissing_12
noncomputable def fX5_has (k0 : Nat) (x1 : Int32) (S : dk_S) : Option (Int32 × dk_S) := if x1 < 0 then some (0, S) else if (S.1 k0 1) ≤ x1 then some (0, S) else some (1, S)
set_option maxRecDepth 100000 in
set_option maxHeartbeats 4000000 in
theorem ct_X5_has (l : Launch) (g : dk_G) (k0 : Nat) (x1 : Int32) (S : dk_S) (h0 : dk_kd k0 = 5) : dk_M l g yX5_has cX5_has 2 (some .boolean) 0 0 [.ref (g.1 k0), .int x1] S (fX5_has k0 x1 S) dk_qi := by
  refine dk_enter "DuckWalk$Row" (by decide +kernel) rfl (Nat.le_of_ble_eq_true rfl) [(0, .ref (g.1 k0)), (1, .int x1)] rfl ?_
  intro p e s m args below meth c C
  unfold fX5_has
  refine dj_iload_n C 1 rfl dX5_has_0 ?_
  refine dj_if_lt (tgt := 16) C dX5_has_1 (by decide) (fun c1 => ?_) (fun c1 => ?_)
  · refine dj_iconst C dX5_has_16 dc_iconst_0 ?_
    exact dj_zret C rfl dX5_has_17
  · refine dj_iload_n C 1 rfl dX5_has_4 ?_
    refine dj_aload_n C 0 rfl dX5_has_5 ?_
    refine dj_geti C dl_X5_15 rfl h0 dX5_has_6 ?_
    refine dj_icmp_ge (tgt := 16) C dX5_has_9 (by decide) (fun c2 => ?_) (fun c2 => ?_)
    · refine dj_iconst C dX5_has_16 dc_iconst_0 ?_
      exact dj_zret C rfl dX5_has_17
    · refine dj_iconst C dX5_has_12 dc_iconst_1 ?_
      refine dj_goto (tgt := 17) C dX5_has_13 (by decide) ?_
      exact dj_zret C rfl dX5_has_17
noncomputable def fX5_hasSpan (k0 : Nat) (x1 : Int32) (x2 : Int32) (S : dk_S) : Option (Int32 × dk_S) := if x1 < 0 then some (0, S) else if (S.1 k0 1) < x1 then some (0, S) else if ((S.1 k0 1) - x1) < x2 then some (0, S) else some (1, S)
set_option maxRecDepth 100000 in
set_option maxHeartbeats 4000000 in
theorem ct_X5_hasSpan (l : Launch) (g : dk_G) (k0 : Nat) (x1 : Int32) (x2 : Int32) (S : dk_S) (h0 : dk_kd k0 = 5) : dk_M l g yX5_hasSpan cX5_hasSpan 3 (some .boolean) 0 0 [.ref (g.1 k0), .int x1, .int x2] S (fX5_hasSpan k0 x1 x2 S) dk_qi := by
  refine dk_enter "DuckWalk$Row" (by decide +kernel) rfl (Nat.le_of_ble_eq_true rfl) [(0, .ref (g.1 k0)), (1, .int x1), (2, .int x2)] rfl ?_
  intro p e s m args below meth c C
  unfold fX5_hasSpan
  refine dj_iload_n C 1 rfl dX5_hasSpan_0 ?_
  refine dj_if_lt (tgt := 26) C dX5_hasSpan_1 (by decide) (fun c1 => ?_) (fun c1 => ?_)
  · refine dj_iconst C dX5_hasSpan_26 dc_iconst_0 ?_
    exact dj_zret C rfl dX5_hasSpan_27
  · refine dj_iload_n C 1 rfl dX5_hasSpan_4 ?_
    refine dj_aload_n C 0 rfl dX5_hasSpan_5 ?_
    refine dj_geti C dl_X5_15 rfl h0 dX5_hasSpan_6 ?_
    refine dj_icmp_gt (tgt := 26) C dX5_hasSpan_9 (by decide) (fun c2 => ?_) (fun c2 => ?_)
    · refine dj_iconst C dX5_hasSpan_26 dc_iconst_0 ?_
      exact dj_zret C rfl dX5_hasSpan_27
    · refine dj_iload_n C 2 rfl dX5_hasSpan_12 ?_
      refine dj_aload_n C 0 rfl dX5_hasSpan_13 ?_
      refine dj_geti C dl_X5_15 rfl h0 dX5_hasSpan_14 ?_
      refine dj_iload_n C 1 rfl dX5_hasSpan_17 ?_
      refine dj_isub C dX5_hasSpan_18 ?_
      refine dj_icmp_gt (tgt := 26) C dX5_hasSpan_19 (by decide) (fun c3 => ?_) (fun c3 => ?_)
      · refine dj_iconst C dX5_hasSpan_26 dc_iconst_0 ?_
        exact dj_zret C rfl dX5_hasSpan_27
      · refine dj_iconst C dX5_hasSpan_22 dc_iconst_1 ?_
        refine dj_goto (tgt := 27) C dX5_hasSpan_23 (by decide) ?_
        exact dj_zret C rfl dX5_hasSpan_27
noncomputable def fX5_renew (k0 : Nat) (x1 : Int32) (S : dk_S) : Option (dk_S) := (fJ7_fill_53178 (k0 + 1) 60 0 S).bind (fun r1 => dk_lt (dk_si r1 k0 1 x1) (fun S2 => some S2))
set_option maxRecDepth 100000 in
set_option maxHeartbeats 4000000 in
theorem ct_X5_renew (l : Launch) (g : dk_G) (k0 : Nat) (x1 : Int32) (S : dk_S) (h0 : dk_kd k0 = 5) : dk_M l g yX5_renew cX5_renew 2 none 1 23 [.ref (g.1 k0), .int x1] S (fX5_renew k0 x1 S) dk_qv := by
  refine dk_enter "DuckWalk$Row" (by decide +kernel) rfl (Nat.le_of_ble_eq_true rfl) [(0, .ref (g.1 k0)), (1, .int x1)] rfl ?_
  intro p e s m args below meth c C
  unfold fX5_renew
  refine dj_aload_n C 0 rfl dX5_renew_0 ?_
  refine dj_getr (r := 1) (k2 := k0 + 1) C dl_X5_9 rfl h0 rfl dX5_renew_1 ?_
  refine dj_iconst C dX5_renew_4 dc_iconst_0 ?_
  refine dj_callSv (As := [.ref (g.1 (k0 + 1)), .int 0]) C dw_X5_19 (ct_J7_fill_53178 l g (k0 + 1) 60 0 S (dt_5_1 h0) (by decide)) ⟨Nat.le_of_ble_eq_true rfl, Nat.le_of_ble_eq_true rfl⟩ rfl (Nat.le_of_ble_eq_true rfl) rfl dX5_renew_5 (fun r1 => ?_)
  refine dj_aload_n C 0 rfl dX5_renew_8 ?_
  refine dj_iload_n C 1 rfl dX5_renew_9 ?_
  refine dj_puti C dl_X5_15 dp_5_1 rfl h0 dX5_renew_10 (fun S2 => ?_)
  exact dj_vret C dX5_renew_13
noncomputable def fX5_sum_L4 (k0 : Nat) : Nat → Int64 → Int32 → dk_S → Option (Int64 × dk_S)
  | 0, _, _, _ => none
  | n + 1, x1, x3, S => if (S.1 k0 1) ≤ x3 then some (x1, S) else dk_gd (dk_in x3 60) (dk_lt (x1 + ((S.1 (k0 + 1) x3.toNatClampNeg).toInt64)) (fun y2 : Int64 => fX5_sum_L4 k0 n y2 (x3 + 1) S))
noncomputable def fX5_sum (k0 : Nat) (S : dk_S) : Option (Int64 × dk_S) := fX5_sum_L4 k0 dk_FU 0 0 S
set_option maxRecDepth 100000 in
set_option maxHeartbeats 4000000 in
theorem jX5_sum_L4 {p : Program} {l : Launch} {e : Env} {R : Room} {s : State} {m : MethodId} {args : Array Value} {below : List Frame} {meth : Method} {c : Code} {g : dk_G} (C : dk_C p l e R s m args below meth c g cX5_sum "DuckWalk$Row" 4 (some .long)) (hR : R = { frames := 0, cells := 0, slots := 0, locals := 0 }) (k0 : Nat) (h0 : dk_kd k0 = 5)  : ∀ (n : Nat) (x1 : Int64) (x3 : Int32) (S : dk_S), dk_J p l e R s m args below meth c g 4 dk_ql 4 [(0, .ref (g.1 k0)), (1, .long x1), (3, .int x3)] [] S (fX5_sum_L4 k0 n x1 x3 S) some := by
  subst hR
  intro n
  induction n with
  | zero =>
    intro x1 x3 S
    exact dj_none
  | succ n ih =>
    intro x1 x3 S
    rw [fX5_sum_L4]
    refine dj_iload_n C 2 rfl dX5_sum_4 ?_
    refine dj_aload_n C 0 rfl dX5_sum_5 ?_
    refine dj_geti C dl_X5_15 rfl h0 dX5_sum_6 ?_
    refine dj_icmp_ge (tgt := 28) C dX5_sum_9 (by decide) (fun c1 => ?_) (fun c1 => ?_)
    · refine dj_lload_n C 1 rfl dX5_sum_28 ?_
      exact dj_lret C dX5_sum_29
    · refine dj_lload_n C 1 rfl dX5_sum_12 ?_
      refine dj_aload_n C 0 rfl dX5_sum_13 ?_
      refine dj_getr (r := 1) (k2 := k0 + 1) C dl_X5_9 rfl h0 rfl dX5_sum_14 ?_
      refine dj_iload_n C 2 rfl dX5_sum_17 ?_
      refine dj_iald (n := 60) C (dt_5_1 h0) (by decide) dX5_sum_18 ?_
      refine dj_i2l C dX5_sum_19 ?_
      refine dj_ladd C dX5_sum_20 ?_
      refine dj_ltl (fun y2 => ?_)
      refine dj_lstore_n (lv2 := [(0, .ref (g.1 k0)), (1, .long y2), (3, .int x3)]) C [1, 0, 2] dX5_sum_21 rfl (by decide) rfl ?_
      refine dj_iinc (lv2 := [(0, .ref (g.1 k0)), (1, .long y2), (3, .int (x3 + 1))]) C 2 rfl [1, 2, 0] dX5_sum_22 dc_iconst_1 (by decide) rfl ?_
      refine dj_goto (tgt := 4) C dX5_sum_25 (by decide) ?_
      exact ih y2 (x3 + 1) S
set_option maxRecDepth 100000 in
set_option maxHeartbeats 4000000 in
theorem ct_X5_sum (l : Launch) (g : dk_G) (k0 : Nat) (S : dk_S) (h0 : dk_kd k0 = 5) : dk_M l g yX5_sum cX5_sum 4 (some .long) 0 0 [.ref (g.1 k0)] S (fX5_sum k0 S) dk_ql := by
  refine dk_enter "DuckWalk$Row" (by decide +kernel) rfl (Nat.le_of_ble_eq_true rfl) [(0, .ref (g.1 k0))] rfl ?_
  intro p e s m args below meth c C
  unfold fX5_sum
  refine dj_lconst (v := 0) C dX5_sum_0 rfl ?_
  refine dj_lstore_n (lv2 := [(0, .ref (g.1 k0)), (1, .long 0)]) C [1, 0] dX5_sum_1 rfl (by decide) rfl ?_
  refine dj_iconst C dX5_sum_2 dc_iconst_0 ?_
  refine dj_istore_n (lv2 := [(0, .ref (g.1 k0)), (1, .long 0), (3, .int 0)]) C [1, 2, 0] dX5_sum_3 rfl (by decide) rfl ?_
  refine jX5_sum_L4 C rfl k0 h0 dk_FU 0 0 S
noncomputable def fX5_digestOn_L15 (k0 : Nat) : Nat → Int64 → Int32 → dk_S → Option (Int64 × dk_S)
  | 0, _, _, _ => none
  | n + 1, x3, x5, S => if (S.1 k0 1) ≤ x5 then some (x3, S) else dk_gd (dk_in x5 60) (dk_lt ((31 * x3) + ((S.1 (k0 + 1) x5.toNatClampNeg).toInt64)) (fun y3 : Int64 => fX5_digestOn_L15 k0 n y3 (x5 + 1) S))
noncomputable def fX5_digestOn (k0 : Nat) (x1 : Int64) (S : dk_S) : Option (Int64 × dk_S) := dk_lt ((31 * x1) + ((S.1 k0 1).toInt64)) (fun y1 : Int64 => fX5_digestOn_L15 k0 dk_FU y1 0 S)
set_option maxRecDepth 100000 in
set_option maxHeartbeats 4000000 in
theorem jX5_digestOn_L15 {p : Program} {l : Launch} {e : Env} {R : Room} {s : State} {m : MethodId} {args : Array Value} {below : List Frame} {meth : Method} {c : Code} {g : dk_G} (C : dk_C p l e R s m args below meth c g cX5_digestOn "DuckWalk$Row" 6 (some .long)) (hR : R = { frames := 0, cells := 0, slots := 0, locals := 0 }) (k0 : Nat) (h0 : dk_kd k0 = 5)  : ∀ (n : Nat) (x3 : Int64) (x5 : Int32) (S : dk_S), dk_J p l e R s m args below meth c g 6 dk_ql 15 [(0, .ref (g.1 k0)), (3, .long x3), (5, .int x5)] [] S (fX5_digestOn_L15 k0 n x3 x5 S) some := by
  subst hR
  intro n
  induction n with
  | zero =>
    intro x3 x5 S
    exact dj_none
  | succ n ih =>
    intro x3 x5 S
    rw [fX5_digestOn_L15]
    refine dj_iload C 2 rfl dX5_digestOn_15 ?_
    refine dj_aload_n C 0 rfl dX5_digestOn_17 ?_
    refine dj_geti C dl_X5_15 rfl h0 dX5_digestOn_18 ?_
    refine dj_icmp_ge (tgt := 45) C dX5_digestOn_21 (by decide) (fun c2 => ?_) (fun c2 => ?_)
    · refine dj_lload_n C 1 rfl dX5_digestOn_45 ?_
      exact dj_lret C dX5_digestOn_46
    · refine dj_ldc2 C (dk_m4 115 rfl rfl) dX5_digestOn_24 ?_
      refine dj_lload_n C 1 rfl dX5_digestOn_27 ?_
      refine dj_lmul C dX5_digestOn_28 ?_
      refine dj_aload_n C 0 rfl dX5_digestOn_29 ?_
      refine dj_getr (r := 1) (k2 := k0 + 1) C dl_X5_9 rfl h0 rfl dX5_digestOn_30 ?_
      refine dj_iload C 2 rfl dX5_digestOn_33 ?_
      refine dj_iald (n := 60) C (dt_5_1 h0) (by decide) dX5_digestOn_35 ?_
      refine dj_i2l C dX5_digestOn_36 ?_
      refine dj_ladd C dX5_digestOn_37 ?_
      refine dj_ltl (fun y3 => ?_)
      refine dj_lstore_n (lv2 := [(0, .ref (g.1 k0)), (3, .long y3), (5, .int x5)]) C [1, 0, 2] dX5_digestOn_38 rfl (by decide) rfl ?_
      refine dj_iinc (lv2 := [(0, .ref (g.1 k0)), (3, .long y3), (5, .int (x5 + 1))]) C 2 rfl [1, 2, 0] dX5_digestOn_39 dc_iconst_1 (by decide) rfl ?_
      refine dj_goto (tgt := 15) C dX5_digestOn_42 (by decide) ?_
      exact ih y3 (x5 + 1) S
set_option maxRecDepth 100000 in
set_option maxHeartbeats 4000000 in
theorem ct_X5_digestOn (l : Launch) (g : dk_G) (k0 : Nat) (x1 : Int64) (S : dk_S) (h0 : dk_kd k0 = 5) : dk_M l g yX5_digestOn cX5_digestOn 6 (some .long) 0 0 [.ref (g.1 k0), .long x1] S (fX5_digestOn k0 x1 S) dk_ql := by
  refine dk_enter "DuckWalk$Row" (by decide +kernel) rfl (Nat.le_of_ble_eq_true rfl) [(0, .ref (g.1 k0)), (1, .long x1)] rfl ?_
  intro p e s m args below meth c C
  unfold fX5_digestOn
  refine dj_ldc2 C (dk_m4 115 rfl rfl) dX5_digestOn_0 ?_
  refine dj_lload_n C 1 rfl dX5_digestOn_3 ?_
  refine dj_lmul C dX5_digestOn_4 ?_
  refine dj_aload_n C 0 rfl dX5_digestOn_5 ?_
  refine dj_geti C dl_X5_15 rfl h0 dX5_digestOn_6 ?_
  refine dj_i2l C dX5_digestOn_9 ?_
  refine dj_ladd C dX5_digestOn_10 ?_
  refine dj_ltl (fun y1 => ?_)
  refine dj_lstore_n (lv2 := [(0, .ref (g.1 k0)), (3, .long y1)]) C [1, 0] dX5_digestOn_11 rfl (by decide) rfl ?_
  refine dj_iconst C dX5_digestOn_12 dc_iconst_0 ?_
  refine dj_istore (lv2 := [(0, .ref (g.1 k0)), (3, .long y1), (5, .int 0)]) C [1, 2, 0] dX5_digestOn_13 (by decide) rfl ?_
  refine jX5_digestOn_L15 C rfl k0 h0 dk_FU y1 0 S
noncomputable def fX6_isMissing (k0 : Nat) (S : dk_S) : Option (Int32 × dk_S) := if 0 ≤ (S.1 k0 1) then some (0, S) else some (1, S)
set_option maxRecDepth 100000 in
set_option maxHeartbeats 4000000 in
theorem ct_X6_isMissing (l : Launch) (g : dk_G) (k0 : Nat) (S : dk_S) (h0 : dk_kd k0 = 6) : dk_M l g yX6_isMissing cX6_isMissing 1 (some .boolean) 0 0 [.ref (g.1 k0)] S (fX6_isMissing k0 S) dk_qi := by
  refine dk_enter "DuckWalk$Script" (by decide +kernel) rfl (Nat.le_of_ble_eq_true rfl) [(0, .ref (g.1 k0))] rfl ?_
  intro p e s m args below meth c C
  unfold fX6_isMissing
  refine dj_aload_n C 0 rfl dX6_isMissing_0 ?_
  refine dj_geti C dl_X6_15 rfl h0 dX6_isMissing_1 ?_
  refine dj_if_ge (tgt := 11) C dX6_isMissing_4 (by decide) (fun c1 => ?_) (fun c1 => ?_)
  · refine dj_iconst C dX6_isMissing_11 dc_iconst_0 ?_
    exact dj_zret C rfl dX6_isMissing_12
  · refine dj_iconst C dX6_isMissing_7 dc_iconst_1 ?_
    refine dj_goto (tgt := 12) C dX6_isMissing_8 (by decide) ?_
    exact dj_zret C rfl dX6_isMissing_12
noncomputable def fJ7_fill_031fb_L5 (k0 : Nat) (n0 : Nat) (x1 : Int32) (x3 : Int32) : Nat → Int32 → dk_S → Option (dk_S)
  | 0, _, _ => none
  | n + 1, x2, S => if x3 ≤ x2 then some S else dk_gd (dk_in x2 n0) (dk_lt (dk_si S k0 x2.toNatClampNeg (vp_nar .byte x1)) (fun S3 => fJ7_fill_031fb_L5 k0 n0 x1 x3 n (x2 + 1) S3))
noncomputable def fJ7_fill_031fb (k0 : Nat) (n0 : Nat) (x1 : Int32) (S : dk_S) : Option (dk_S) := dk_lt (Int32.ofNat n0) (fun y1 : Int32 => fJ7_fill_031fb_L5 k0 n0 x1 y1 dk_FU 0 S)
set_option maxRecDepth 100000 in
set_option maxHeartbeats 4000000 in
theorem jJ7_fill_031fb_L5 {p : Program} {l : Launch} {e : Env} {R : Room} {s : State} {m : MethodId} {args : Array Value} {below : List Frame} {meth : Method} {c : Code} {g : dk_G} (C : dk_C p l e R s m args below meth c g cJ7_fill_031fb "java/util/Arrays" 4 none) (hR : R = { frames := 0, cells := 0, slots := 0, locals := 0 }) (k0 : Nat) (n0 : Nat) (x1 : Int32) (x3 : Int32) (h0 : dk_kd k0 = 2000 + n0) (hn0 : n0 < 1000)  : ∀ (n : Nat) (x2 : Int32) (S : dk_S), dk_J p l e R s m args below meth c g 4 dk_qv 5 [(0, .ref (g.1 k0)), (1, .int x1), (2, .int x2), (3, .int x3)] [] S (fJ7_fill_031fb_L5 k0 n0 x1 x3 n x2 S) some := by
  subst hR
  intro n
  induction n with
  | zero =>
    intro x2 S
    exact dj_none
  | succ n ih =>
    intro x2 S
    rw [fJ7_fill_031fb_L5]
    refine dj_iload_n C 2 rfl dJ7_fill_031fb_5 ?_
    refine dj_iload_n C 3 rfl dJ7_fill_031fb_6 ?_
    refine dj_icmp_ge (tgt := 20) C dJ7_fill_031fb_7 (by decide) (fun c2 => ?_) (fun c2 => ?_)
    · exact dj_vret C dJ7_fill_031fb_20
    · refine dj_aload_n C 0 rfl dJ7_fill_031fb_10 ?_
      refine dj_iload_n C 2 rfl dJ7_fill_031fb_11 ?_
      refine dj_iload_n C 1 rfl dJ7_fill_031fb_12 ?_
      refine dj_bast (n := n0) C h0 hn0 dJ7_fill_031fb_13 (fun S3 => ?_)
      refine dj_iinc (lv2 := [(0, .ref (g.1 k0)), (1, .int x1), (2, .int (x2 + 1)), (3, .int x3)]) C 2 rfl [1, 2, 0, 3] dJ7_fill_031fb_14 dc_iconst_1 (by decide) rfl ?_
      refine dj_goto (tgt := 5) C dJ7_fill_031fb_17 (by decide) ?_
      exact ih (x2 + 1) S3
set_option maxRecDepth 100000 in
set_option maxHeartbeats 4000000 in
theorem ct_J7_fill_031fb (l : Launch) (g : dk_G) (k0 : Nat) (n0 : Nat) (x1 : Int32) (S : dk_S) (h0 : dk_kd k0 = 2000 + n0) (hn0 : n0 < 1000) : dk_M l g yJ7_fill_031fb cJ7_fill_031fb 4 none 0 0 [.ref (g.1 k0), .int x1] S (fJ7_fill_031fb k0 n0 x1 S) dk_qv := by
  refine dk_enter "java/util/Arrays" (by decide +kernel) rfl (Nat.le_of_ble_eq_true rfl) [(0, .ref (g.1 k0)), (1, .int x1)] rfl ?_
  intro p e s m args below meth c C
  unfold fJ7_fill_031fb
  refine dj_iconst C dJ7_fill_031fb_0 dc_iconst_0 ?_
  refine dj_istore_n (lv2 := [(0, .ref (g.1 k0)), (1, .int x1), (2, .int 0)]) C [1, 2, 0] dJ7_fill_031fb_1 rfl (by decide) rfl ?_
  refine dj_aload_n C 0 rfl dJ7_fill_031fb_2 ?_
  refine dj_blen (n := n0) C h0 hn0 rfl dJ7_fill_031fb_3 ?_
  refine dj_lti (fun y1 => ?_)
  refine dj_istore_n (lv2 := [(0, .ref (g.1 k0)), (1, .int x1), (2, .int 0), (3, .int y1)]) C [1, 2, 3, 0] dJ7_fill_031fb_4 rfl (by decide) rfl ?_
  refine jJ7_fill_031fb_L5 C rfl k0 n0 x1 y1 h0 hn0 dk_FU 0 S
noncomputable def fX6_renew (k0 : Nat) (x1 : Int32) (S : dk_S) : Option (dk_S) := (fJ7_fill_031fb (k0 + 1) 80 32 S).bind (fun r1 => dk_lt (dk_si r1 k0 1 x1) (fun S2 => some S2))
set_option maxRecDepth 100000 in
set_option maxHeartbeats 4000000 in
theorem ct_X6_renew (l : Launch) (g : dk_G) (k0 : Nat) (x1 : Int32) (S : dk_S) (h0 : dk_kd k0 = 6) : dk_M l g yX6_renew cX6_renew 2 none 1 23 [.ref (g.1 k0), .int x1] S (fX6_renew k0 x1 S) dk_qv := by
  refine dk_enter "DuckWalk$Script" (by decide +kernel) rfl (Nat.le_of_ble_eq_true rfl) [(0, .ref (g.1 k0)), (1, .int x1)] rfl ?_
  intro p e s m args below meth c C
  unfold fX6_renew
  refine dj_aload_n C 0 rfl dX6_renew_0 ?_
  refine dj_getr (r := 1) (k2 := k0 + 1) C dl_X6_9 rfl h0 rfl dX6_renew_1 ?_
  refine dj_bipush C dX6_renew_4 dc_bipush_32 ?_
  refine dj_callSv (As := [.ref (g.1 (k0 + 1)), .int 32]) C dw_X6_19 (ct_J7_fill_031fb l g (k0 + 1) 80 32 S (dt_6_1 h0) (by decide)) ⟨Nat.le_of_ble_eq_true rfl, Nat.le_of_ble_eq_true rfl⟩ rfl (Nat.le_of_ble_eq_true rfl) rfl dX6_renew_6 (fun r1 => ?_)
  refine dj_aload_n C 0 rfl dX6_renew_9 ?_
  refine dj_iload_n C 1 rfl dX6_renew_10 ?_
  refine dj_puti C dl_X6_15 dp_6_1 rfl h0 dX6_renew_11 (fun S2 => ?_)
  exact dj_vret C dX6_renew_14
noncomputable def fX6_digestOn_L15 (k0 : Nat) : Nat → Int64 → Int32 → dk_S → Option (Int64 × dk_S)
  | 0, _, _, _ => none
  | n + 1, x3, x5, S => if (S.1 k0 1) ≤ x5 then some (x3, S) else dk_gd (dk_in x5 80) (dk_lt ((31 * x3) + ((S.1 (k0 + 1) x5.toNatClampNeg).toInt64)) (fun y3 : Int64 => fX6_digestOn_L15 k0 n y3 (x5 + 1) S))
noncomputable def fX6_digestOn (k0 : Nat) (x1 : Int64) (S : dk_S) : Option (Int64 × dk_S) := dk_lt ((31 * x1) + ((S.1 k0 1).toInt64)) (fun y1 : Int64 => fX6_digestOn_L15 k0 dk_FU y1 0 S)
set_option maxRecDepth 100000 in
set_option maxHeartbeats 4000000 in
theorem jX6_digestOn_L15 {p : Program} {l : Launch} {e : Env} {R : Room} {s : State} {m : MethodId} {args : Array Value} {below : List Frame} {meth : Method} {c : Code} {g : dk_G} (C : dk_C p l e R s m args below meth c g cX6_digestOn "DuckWalk$Script" 6 (some .long)) (hR : R = { frames := 0, cells := 0, slots := 0, locals := 0 }) (k0 : Nat) (h0 : dk_kd k0 = 6)  : ∀ (n : Nat) (x3 : Int64) (x5 : Int32) (S : dk_S), dk_J p l e R s m args below meth c g 6 dk_ql 15 [(0, .ref (g.1 k0)), (3, .long x3), (5, .int x5)] [] S (fX6_digestOn_L15 k0 n x3 x5 S) some := by
  subst hR
  intro n
  induction n with
  | zero =>
    intro x3 x5 S
    exact dj_none
  | succ n ih =>
    intro x3 x5 S
    rw [fX6_digestOn_L15]
    refine dj_iload C 2 rfl dX6_digestOn_15 ?_
    refine dj_aload_n C 0 rfl dX6_digestOn_17 ?_
    refine dj_geti C dl_X6_15 rfl h0 dX6_digestOn_18 ?_
    refine dj_icmp_ge (tgt := 45) C dX6_digestOn_21 (by decide) (fun c2 => ?_) (fun c2 => ?_)
    · refine dj_lload_n C 1 rfl dX6_digestOn_45 ?_
      exact dj_lret C dX6_digestOn_46
    · refine dj_ldc2 C (dk_m4 120 rfl rfl) dX6_digestOn_24 ?_
      refine dj_lload_n C 1 rfl dX6_digestOn_27 ?_
      refine dj_lmul C dX6_digestOn_28 ?_
      refine dj_aload_n C 0 rfl dX6_digestOn_29 ?_
      refine dj_getr (r := 1) (k2 := k0 + 1) C dl_X6_9 rfl h0 rfl dX6_digestOn_30 ?_
      refine dj_iload C 2 rfl dX6_digestOn_33 ?_
      refine dj_bald (n := 80) C (dt_6_1 h0) (by decide) dX6_digestOn_35 ?_
      refine dj_i2l C dX6_digestOn_36 ?_
      refine dj_ladd C dX6_digestOn_37 ?_
      refine dj_ltl (fun y3 => ?_)
      refine dj_lstore_n (lv2 := [(0, .ref (g.1 k0)), (3, .long y3), (5, .int x5)]) C [1, 0, 2] dX6_digestOn_38 rfl (by decide) rfl ?_
      refine dj_iinc (lv2 := [(0, .ref (g.1 k0)), (3, .long y3), (5, .int (x5 + 1))]) C 2 rfl [1, 2, 0] dX6_digestOn_39 dc_iconst_1 (by decide) rfl ?_
      refine dj_goto (tgt := 15) C dX6_digestOn_42 (by decide) ?_
      exact ih y3 (x5 + 1) S
set_option maxRecDepth 100000 in
set_option maxHeartbeats 4000000 in
theorem ct_X6_digestOn (l : Launch) (g : dk_G) (k0 : Nat) (x1 : Int64) (S : dk_S) (h0 : dk_kd k0 = 6) : dk_M l g yX6_digestOn cX6_digestOn 6 (some .long) 0 0 [.ref (g.1 k0), .long x1] S (fX6_digestOn k0 x1 S) dk_ql := by
  refine dk_enter "DuckWalk$Script" (by decide +kernel) rfl (Nat.le_of_ble_eq_true rfl) [(0, .ref (g.1 k0)), (1, .long x1)] rfl ?_
  intro p e s m args below meth c C
  unfold fX6_digestOn
  refine dj_ldc2 C (dk_m4 120 rfl rfl) dX6_digestOn_0 ?_
  refine dj_lload_n C 1 rfl dX6_digestOn_3 ?_
  refine dj_lmul C dX6_digestOn_4 ?_
  refine dj_aload_n C 0 rfl dX6_digestOn_5 ?_
  refine dj_geti C dl_X6_15 rfl h0 dX6_digestOn_6 ?_
  refine dj_i2l C dX6_digestOn_9 ?_
  refine dj_ladd C dX6_digestOn_10 ?_
  refine dj_ltl (fun y1 => ?_)
  refine dj_lstore_n (lv2 := [(0, .ref (g.1 k0)), (3, .long y1)]) C [1, 0] dX6_digestOn_11 rfl (by decide) rfl ?_
  refine dj_iconst C dX6_digestOn_12 dc_iconst_0 ?_
  refine dj_istore (lv2 := [(0, .ref (g.1 k0)), (3, .long y1), (5, .int 0)]) C [1, 2, 0] dX6_digestOn_13 (by decide) rfl ?_
  refine jX6_digestOn_L15 C rfl k0 h0 dk_FU y1 0 S
noncomputable def fJ9_min_7cf53 (x0 : Int32) (x1 : Int32) (S : dk_S) : Option (Int32 × dk_S) := if x1 < x0 then some (x1, S) else some (x0, S)
set_option maxRecDepth 100000 in
set_option maxHeartbeats 4000000 in
theorem ct_J9_min_7cf53 (l : Launch) (g : dk_G) (x0 : Int32) (x1 : Int32) (S : dk_S)  : dk_M l g yJ9_min_7cf53 cJ9_min_7cf53 2 (some .int) 0 0 [.int x0, .int x1] S (fJ9_min_7cf53 x0 x1 S) dk_qi := by
  refine dk_enter "java/lang/Math" (by decide +kernel) rfl (Nat.le_of_ble_eq_true rfl) [(0, .int x0), (1, .int x1)] rfl ?_
  intro p e s m args below meth c C
  unfold fJ9_min_7cf53
  refine dj_iload_n C 0 rfl dJ9_min_7cf53_0 ?_
  refine dj_iload_n C 1 rfl dJ9_min_7cf53_1 ?_
  refine dj_icmp_gt (tgt := 9) C dJ9_min_7cf53_2 (by decide) (fun c1 => ?_) (fun c1 => ?_)
  · refine dj_iload_n C 1 rfl dJ9_min_7cf53_9 ?_
    exact dj_iret C dJ9_min_7cf53_10
  · refine dj_iload_n C 0 rfl dJ9_min_7cf53_5 ?_
    refine dj_goto (tgt := 10) C dJ9_min_7cf53_6 (by decide) ?_
    exact dj_iret C dJ9_min_7cf53_10
noncomputable def fX7_closeTrip_L31 (x2 : Int32) (kx76 : dk_S → Option (dk_S)) : Nat → Int32 → dk_S → Option (dk_S)
  | 0, _, _ => none
  | n + 1, x3, S => if x2 ≤ x3 then kx76 S else dk_gd (dk_in x3 401) ((fJ9_min_7cf53 (S.1 16 3) (S.1 22 x3.toNatClampNeg) S).bind (fun r16 => dk_lt (dk_si r16.2 16 3 r16.1) (fun S17 => dk_gd (dk_in x3 401) ((fJ9_max_7cf53 (S17.1 16 4) (S17.1 22 x3.toNatClampNeg) S17).bind (fun r18 => dk_lt (dk_si r18.2 16 4 r18.1) (fun S19 => fX7_closeTrip_L31 x2 kx76 n (x3 + 1) S19))))))
noncomputable def fX7_closeTrip (x1 : Int32) (x2 : Int32) (S : dk_S) : Option (dk_S) := dk_lt (dk_si S 16 2 (x2 - x1)) (fun S1 => dk_gd (dk_in x1 401) (dk_lt (dk_si S1 16 3 (S1.1 22 x1.toNatClampNeg)) (fun S2 => dk_gd (dk_in x1 401) (dk_lt (dk_si S2 16 4 (S2.1 22 x1.toNatClampNeg)) (fun S3 => dk_lt (x1 + 1) (fun y4 : Int32 => fX7_closeTrip_L31 x2 (fun t5 : dk_S => if (t5.1 16 3) = (t5.1 16 4) then (fX1_limit 18 t5).bind (fun r11 => if (t5.1 16 3) ≤ (r11.1 / 2) then dk_lt (dk_si r11.2 16 1 1) (fun S13 => some S13) else dk_lt (dk_si r11.2 16 1 6) (fun S14 => some S14)) else if 4 < (t5.1 16 2) then some t5 else if (t5.1 16 2) = 4 then dk_lt (dk_si t5 16 1 7) (fun S10 => some S10) else dk_lt (dk_si t5 16 1 2) (fun S9 => some S9)) dk_FU y4 S3))))))
set_option maxRecDepth 100000 in
set_option maxHeartbeats 4000000 in
theorem jX7_closeTrip_L31 {p : Program} {l : Launch} {e : Env} {R : Room} {s : State} {m : MethodId} {args : Array Value} {below : List Frame} {meth : Method} {c : Code} {g : dk_G} (C : dk_C p l e R s m args below meth c g cX7_closeTrip "DuckWalk$Trial" 4 none) (hR : R = { frames := 1, cells := 0, slots := 0, locals := 21 }) (x2 : Int32) (kx76 : dk_S → Option (dk_S))  (hkx76 : ∀ t : dk_S, dk_J p l e R s m args below meth c g 4 dk_qv 76 [(0, .ref (g.1 16))] [] t (kx76 t) some) : ∀ (n : Nat) (x3 : Int32) (S : dk_S), dk_J p l e R s m args below meth c g 4 dk_qv 31 [(0, .ref (g.1 16)), (2, .int x2), (3, .int x3)] [] S (fX7_closeTrip_L31 x2 kx76 n x3 S) some := by
  subst hR
  intro n
  induction n with
  | zero =>
    intro x3 S
    exact dj_none
  | succ n ih =>
    intro x3 S
    rw [fX7_closeTrip_L31]
    refine dj_iload_n C 2 rfl dX7_closeTrip_31 ?_
    refine dj_iload_n C 1 rfl dX7_closeTrip_32 ?_
    refine dj_icmp_ge (tgt := 76) C dX7_closeTrip_33 (by decide) (fun c15 => ?_) (fun c15 => ?_)
    · refine dj_sub (lv2 := [(0, .ref (g.1 16))]) [0] rfl ?_
      exact hkx76 S
    · refine dj_aload_n C 0 rfl dX7_closeTrip_36 ?_
      refine dj_aload_n C 0 rfl dX7_closeTrip_37 ?_
      refine dj_geti C dl_X7_25 rfl dz_16 dX7_closeTrip_38 ?_
      refine dj_aload_n C 0 rfl dX7_closeTrip_41 ?_
      refine dj_getr (r := 6) (k2 := 22) C dl_X7_31 rfl dz_16 rfl dX7_closeTrip_42 ?_
      refine dj_iload_n C 2 rfl dX7_closeTrip_45 ?_
      refine dj_iald (n := 401) C dz_22 (by decide) dX7_closeTrip_46 ?_
      refine dj_callSi (As := [.int (S.1 16 3), .int (S.1 22 x3.toNatClampNeg)]) C dw_X7_70 (ct_J9_min_7cf53 l g (S.1 16 3) (S.1 22 x3.toNatClampNeg) S) ⟨Nat.le_of_ble_eq_true rfl, Nat.le_of_ble_eq_true rfl⟩ rfl (Nat.le_of_ble_eq_true rfl) rfl dX7_closeTrip_47 (fun r16 => ?_)
      refine dj_puti C dl_X7_25 dp_7_3 rfl dz_16 dX7_closeTrip_50 (fun S17 => ?_)
      refine dj_aload_n C 0 rfl dX7_closeTrip_53 ?_
      refine dj_aload_n C 0 rfl dX7_closeTrip_54 ?_
      refine dj_geti C dl_X7_28 rfl dz_16 dX7_closeTrip_55 ?_
      refine dj_aload_n C 0 rfl dX7_closeTrip_58 ?_
      refine dj_getr (r := 6) (k2 := 22) C dl_X7_31 rfl dz_16 rfl dX7_closeTrip_59 ?_
      refine dj_iload_n C 2 rfl dX7_closeTrip_62 ?_
      refine dj_iald (n := 401) C dz_22 (by decide) dX7_closeTrip_63 ?_
      refine dj_callSi (As := [.int (S17.1 16 4), .int (S17.1 22 x3.toNatClampNeg)]) C dw_X7_76 (ct_J9_max_7cf53 l g (S17.1 16 4) (S17.1 22 x3.toNatClampNeg) S17) ⟨Nat.le_of_ble_eq_true rfl, Nat.le_of_ble_eq_true rfl⟩ rfl (Nat.le_of_ble_eq_true rfl) rfl dX7_closeTrip_64 (fun r18 => ?_)
      refine dj_puti C dl_X7_28 dp_7_4 rfl dz_16 dX7_closeTrip_67 (fun S19 => ?_)
      refine dj_iinc (lv2 := [(0, .ref (g.1 16)), (2, .int x2), (3, .int (x3 + 1))]) C 2 rfl [1, 2, 0] dX7_closeTrip_70 dc_iconst_1 (by decide) rfl ?_
      refine dj_goto (tgt := 31) C dX7_closeTrip_73 (by decide) ?_
      exact ih (x3 + 1) S19
set_option maxRecDepth 100000 in
set_option maxHeartbeats 4000000 in
theorem ct_X7_closeTrip (l : Launch) (g : dk_G) (x1 : Int32) (x2 : Int32) (S : dk_S)  : dk_M l g yX7_closeTrip cX7_closeTrip 4 none 1 21 [.ref (g.1 16), .int x1, .int x2] S (fX7_closeTrip x1 x2 S) dk_qv := by
  refine dk_enter "DuckWalk$Trial" (by decide +kernel) rfl (Nat.le_of_ble_eq_true rfl) [(0, .ref (g.1 16)), (1, .int x1), (2, .int x2)] rfl ?_
  intro p e s m args below meth c C
  unfold fX7_closeTrip
  refine dj_aload_n C 0 rfl dX7_closeTrip_0 ?_
  refine dj_iload_n C 2 rfl dX7_closeTrip_1 ?_
  refine dj_iload_n C 1 rfl dX7_closeTrip_2 ?_
  refine dj_isub C dX7_closeTrip_3 ?_
  refine dj_puti C dl_X7_22 dp_7_2 rfl dz_16 dX7_closeTrip_4 (fun S1 => ?_)
  refine dj_aload_n C 0 rfl dX7_closeTrip_7 ?_
  refine dj_aload_n C 0 rfl dX7_closeTrip_8 ?_
  refine dj_getr (r := 6) (k2 := 22) C dl_X7_31 rfl dz_16 rfl dX7_closeTrip_9 ?_
  refine dj_iload_n C 1 rfl dX7_closeTrip_12 ?_
  refine dj_iald (n := 401) C dz_22 (by decide) dX7_closeTrip_13 ?_
  refine dj_puti C dl_X7_25 dp_7_3 rfl dz_16 dX7_closeTrip_14 (fun S2 => ?_)
  refine dj_aload_n C 0 rfl dX7_closeTrip_17 ?_
  refine dj_aload_n C 0 rfl dX7_closeTrip_18 ?_
  refine dj_getr (r := 6) (k2 := 22) C dl_X7_31 rfl dz_16 rfl dX7_closeTrip_19 ?_
  refine dj_iload_n C 1 rfl dX7_closeTrip_22 ?_
  refine dj_iald (n := 401) C dz_22 (by decide) dX7_closeTrip_23 ?_
  refine dj_puti C dl_X7_28 dp_7_4 rfl dz_16 dX7_closeTrip_24 (fun S3 => ?_)
  refine dj_iload_n C 1 rfl dX7_closeTrip_27 ?_
  refine dj_iconst C dX7_closeTrip_28 dc_iconst_1 ?_
  refine dj_iadd C dX7_closeTrip_29 ?_
  refine dj_lti (fun y4 => ?_)
  refine dj_istore_n (lv2 := [(0, .ref (g.1 16)), (2, .int x2), (3, .int y4)]) C [1, 3, 0] dX7_closeTrip_30 rfl (by decide) rfl ?_
  refine jX7_closeTrip_L31 C rfl x2 _ (fun t5 => ?_) dk_FU y4 S3
  · refine dj_aload_n C 0 rfl dX7_closeTrip_76 ?_
    refine dj_geti C dl_X7_25 rfl dz_16 dX7_closeTrip_77 ?_
    refine dj_aload_n C 0 rfl dX7_closeTrip_80 ?_
    refine dj_geti C dl_X7_28 rfl dz_16 dX7_closeTrip_81 ?_
    refine dj_icmp_ne (tgt := 119) C dX7_closeTrip_84 (by decide) (fun c6 => ?_) (fun c6 => ?_)
    · refine dj_aload_n C 0 rfl dX7_closeTrip_119 ?_
      refine dj_geti C dl_X7_22 rfl dz_16 dX7_closeTrip_120 ?_
      refine dj_iconst C dX7_closeTrip_123 dc_iconst_4 ?_
      refine dj_icmp_gt (tgt := 145) C dX7_closeTrip_124 (by decide) (fun c7 => ?_) (fun c7 => ?_)
      · exact dj_vret C dX7_closeTrip_145
      · refine dj_aload_n C 0 rfl dX7_closeTrip_127 ?_
        refine dj_aload_n C 0 rfl dX7_closeTrip_128 ?_
        refine dj_geti C dl_X7_22 rfl dz_16 dX7_closeTrip_129 ?_
        refine dj_iconst C dX7_closeTrip_132 dc_iconst_4 ?_
        refine dj_icmp_ne (tgt := 141) C dX7_closeTrip_133 (by decide) (fun c8 => ?_) (fun c8 => ?_)
        · refine dj_iconst C dX7_closeTrip_141 dc_iconst_2 ?_
          refine dj_puti C dl_X7_18 dp_7_1 rfl dz_16 dX7_closeTrip_142 (fun S9 => ?_)
          exact dj_vret C dX7_closeTrip_145
        · refine dj_bipush C dX7_closeTrip_136 dc_bipush_7 ?_
          refine dj_goto (tgt := 142) C dX7_closeTrip_138 (by decide) ?_
          refine dj_puti C dl_X7_18 dp_7_1 rfl dz_16 dX7_closeTrip_142 (fun S10 => ?_)
          exact dj_vret C dX7_closeTrip_145
    · refine dj_aload_n C 0 rfl dX7_closeTrip_87 ?_
      refine dj_aload_n C 0 rfl dX7_closeTrip_88 ?_
      refine dj_geti C dl_X7_25 rfl dz_16 dX7_closeTrip_89 ?_
      refine dj_aload_n C 0 rfl dX7_closeTrip_92 ?_
      refine dj_getr (r := 1) (k2 := 17) C dl_X7_12 rfl dz_16 rfl dX7_closeTrip_93 ?_
      refine dj_getr (r := 1) (k2 := 18) C dl_X7_79 rfl dz_17 rfl dX7_closeTrip_96 ?_
      refine dj_callVi (t := 1) (As := []) C dw_X7_83 ⟨_, _, rfl⟩ (by decide) dz_18 (ct_X1_limit l g 18 t5 dz_18) ⟨Nat.le_of_ble_eq_true rfl, Nat.le_of_ble_eq_true rfl⟩ rfl (Nat.le_of_ble_eq_true rfl) rfl dX7_closeTrip_99 (fun r11 => ?_)
      refine dj_iconst C dX7_closeTrip_102 dc_iconst_2 ?_
      refine dj_idiv C dX7_closeTrip_103 (by decide) ?_
      refine dj_icmp_le (tgt := 112) C dX7_closeTrip_104 (by decide) (fun c12 => ?_) (fun c12 => ?_)
      · refine dj_iconst C dX7_closeTrip_112 dc_iconst_1 ?_
        refine dj_puti C dl_X7_18 dp_7_1 rfl dz_16 dX7_closeTrip_113 (fun S13 => ?_)
        refine dj_goto (tgt := 145) C dX7_closeTrip_116 (by decide) ?_
        exact dj_vret C dX7_closeTrip_145
      · refine dj_bipush C dX7_closeTrip_107 dc_bipush_6 ?_
        refine dj_goto (tgt := 113) C dX7_closeTrip_109 (by decide) ?_
        refine dj_puti C dl_X7_18 dp_7_1 rfl dz_16 dX7_closeTrip_113 (fun S14 => ?_)
        refine dj_goto (tgt := 145) C dX7_closeTrip_116 (by decide) ?_
        exact dj_vret C dX7_closeTrip_145
noncomputable def fX7_find_L34 (kx63 : dk_S → Option (dk_S)) (kx131 : (Int32 × Int32 × dk_S) → Option (dk_S)) : Nat → Int32 → dk_S → Option (dk_S)
  | 0, _, _ => none
  | n + 1, x3, S => if 400 < x3 then some S else dk_lt (fun t12 : dk_S => (if (t12.1 17 7) = 0 then dk_lt ((2 * (t12.1 17 4)) + (t12.1 17 5)) (fun y15 : Int32 => (fX8_isOutside y15 0 199 t12).bind (fun r16 => if r16.1 = 0 then dk_gd (dk_in y15 200) (if (lg_cmp (r16.2.2 23 y15.toNatClampNeg) (r16.2.2 16 7)) < 0 then dk_gd (dk_in y15 200) (dk_lt (dk_sl r16.2 23 y15.toNatClampNeg ((r16.2.2 16 7) + x3.toInt64)) (fun S19 => dk_gd (dk_in x3 401) (dk_lt (dk_si S19 22 x3.toNatClampNeg (S19.1 17 4)) (fun S20 => fX7_find_L34 kx63 kx131 n (x3 + 1) S20)))) else kx131 (x3, y15, r16.2)) else some r16.2)) else kx63 t12 : Option (dk_S))) (fun k13 => if x3 ≤ 0 then k13 S else (fX0_stride 17 S).bind (fun r22 => k13 r22.2))
noncomputable def fX7_find (x1 : Int32) (x2 : Int32) (S : dk_S) : Option (dk_S) := (fX0_begin 17 x1 x2 0 S).bind (fun r1 => dk_lt (dk_sl r1 16 7 ((r1.2 16 7) + 401)) (fun S2 => dk_lt (dk_si S2 16 1 3) (fun S3 => dk_lt (dk_si S3 16 2 0) (fun S4 => fX7_find_L34 (fun t5 : dk_S => if (t5.1 17 7) = 1 then dk_lt (dk_si t5 16 1 4) (fun S8 => some S8) else dk_lt (dk_si t5 16 1 5) (fun S7 => some S7)) (fun t9 : Int32 × Int32 × dk_S => dk_gd (dk_in t9.2.1 200) ((fX7_closeTrip (((t9.2.2.2 23 t9.2.1.toNatClampNeg) - (t9.2.2.2 16 7)).toInt32) t9.1 t9.2.2).bind (fun r10 => some r10))) dk_FU 0 S4))))
set_option maxRecDepth 100000 in
set_option maxHeartbeats 4000000 in
theorem jX7_find_L34 {p : Program} {l : Launch} {e : Env} {R : Room} {s : State} {m : MethodId} {args : Array Value} {below : List Frame} {meth : Method} {c : Code} {g : dk_G} (C : dk_C p l e R s m args below meth c g cX7_find "DuckWalk$Trial" 5 none) (hR : R = { frames := 3, cells := 0, slots := 0, locals := 65 }) (kx63 : dk_S → Option (dk_S)) (kx131 : (Int32 × Int32 × dk_S) → Option (dk_S))  (hkx63 : ∀ t : dk_S, dk_J p l e R s m args below meth c g 5 dk_qv 63 [(0, .ref (g.1 16))] [] t (kx63 t) some) (hkx131 : ∀ t : Int32 × Int32 × dk_S, dk_J p l e R s m args below meth c g 5 dk_qv 131 [(0, .ref (g.1 16)), (3, .int t.1), (4, .int t.2.1)] [] t.2.2 (kx131 t) some) : ∀ (n : Nat) (x3 : Int32) (S : dk_S), dk_J p l e R s m args below meth c g 5 dk_qv 34 [(0, .ref (g.1 16)), (3, .int x3)] [] S (fX7_find_L34 kx63 kx131 n x3 S) some := by
  subst hR
  intro n
  induction n with
  | zero =>
    intro x3 S
    exact dj_none
  | succ n ih =>
    intro x3 S
    rw [fX7_find_L34]
    refine dj_iload_n C 1 rfl dX7_find_34 ?_
    refine dj_sipush C dX7_find_35 dc_sipush_400 ?_
    refine dj_icmp_gt (tgt := 183) C dX7_find_38 (by decide) (fun c11 => ?_) (fun c11 => ?_)
    · exact dj_vret C dX7_find_183
    · refine dj_iload_n C 1 rfl dX7_find_41 ?_
      refine dj_join 53 (fun t12 : dk_S => [(0, .ref (g.1 16)), (3, .int x3)]) (fun t12 : dk_S => []) (fun t12 : dk_S => t12) (fun t12 => ?_) (fun k13 hk13 => ?_)
      · refine dj_aload_n C 0 rfl dX7_find_53 ?_
        refine dj_getr (r := 1) (k2 := 17) C dl_X7_12 rfl dz_16 rfl dX7_find_54 ?_
        refine dj_geti C dl_X7_53 rfl dz_17 dX7_find_57 ?_
        refine dj_if_eq (tgt := 84) C dX7_find_60 (by decide) (fun c14 => ?_) (fun c14 => ?_)
        · refine dj_iconst C dX7_find_84 dc_iconst_2 ?_
          refine dj_aload_n C 0 rfl dX7_find_85 ?_
          refine dj_getr (r := 1) (k2 := 17) C dl_X7_12 rfl dz_16 rfl dX7_find_86 ?_
          refine dj_geti C dl_X7_56 rfl dz_17 dX7_find_89 ?_
          refine dj_imul C dX7_find_92 ?_
          refine dj_aload_n C 0 rfl dX7_find_93 ?_
          refine dj_getr (r := 1) (k2 := 17) C dl_X7_12 rfl dz_16 rfl dX7_find_94 ?_
          refine dj_geti C dl_X7_59 rfl dz_17 dX7_find_97 ?_
          refine dj_iadd C dX7_find_100 ?_
          refine dj_lti (fun y15 => ?_)
          refine dj_istore (lv2 := [(0, .ref (g.1 16)), (3, .int x3), (4, .int y15)]) C [1, 2, 0] dX7_find_101 (by decide) rfl ?_
          refine dj_iload C 2 rfl dX7_find_103 ?_
          refine dj_iconst C dX7_find_105 dc_iconst_0 ?_
          refine dj_sipush C dX7_find_106 dc_sipush_199 ?_
          refine dj_callNi (As := [.int y15, .int 0, .int 199]) C dw_X7_62 (ct_X8_isOutside l g y15 0 199 t12) ⟨Nat.le_of_ble_eq_true rfl, Nat.le_of_ble_eq_true rfl⟩ rfl (Nat.le_of_ble_eq_true rfl) rfl dX7_find_109 (fun r16 => ?_)
          refine dj_if_eq (tgt := 116) C dX7_find_112 (by decide) (fun c17 => ?_) (fun c17 => ?_)
          · refine dj_aload_n C 0 rfl dX7_find_116 ?_
            refine dj_getr (r := 7) (k2 := 23) C dl_X7_35 rfl dz_16 rfl dX7_find_117 ?_
            refine dj_iload C 2 rfl dX7_find_120 ?_
            refine dj_lald (n := 200) C dz_23 (by decide) dX7_find_122 ?_
            refine dj_aload_n C 0 rfl dX7_find_123 ?_
            refine dj_getl C dl_X7_39 rfl dz_16 dX7_find_124 ?_
            refine dj_lcmp C dX7_find_127 ?_
            refine dj_if_lt (tgt := 150) C dX7_find_128 (by decide) (fun c18 => ?_) (fun c18 => ?_)
            · refine dj_aload_n C 0 rfl dX7_find_150 ?_
              refine dj_getr (r := 7) (k2 := 23) C dl_X7_35 rfl dz_16 rfl dX7_find_151 ?_
              refine dj_iload C 2 rfl dX7_find_154 ?_
              refine dj_aload_n C 0 rfl dX7_find_156 ?_
              refine dj_getl C dl_X7_39 rfl dz_16 dX7_find_157 ?_
              refine dj_iload_n C 1 rfl dX7_find_160 ?_
              refine dj_i2l C dX7_find_161 ?_
              refine dj_ladd C dX7_find_162 ?_
              refine dj_last (n := 200) C dz_23 (by decide) dX7_find_163 (fun S19 => ?_)
              refine dj_aload_n C 0 rfl dX7_find_164 ?_
              refine dj_getr (r := 6) (k2 := 22) C dl_X7_31 rfl dz_16 rfl dX7_find_165 ?_
              refine dj_iload_n C 1 rfl dX7_find_168 ?_
              refine dj_aload_n C 0 rfl dX7_find_169 ?_
              refine dj_getr (r := 1) (k2 := 17) C dl_X7_12 rfl dz_16 rfl dX7_find_170 ?_
              refine dj_geti C dl_X7_56 rfl dz_17 dX7_find_173 ?_
              refine dj_iast (n := 401) C dz_22 (by decide) dX7_find_176 (fun S20 => ?_)
              refine dj_iinc (lv2 := [(0, .ref (g.1 16)), (3, .int (x3 + 1)), (4, .int y15)]) C 1 rfl [1, 0, 2] dX7_find_177 dc_iconst_1 (by decide) rfl ?_
              refine dj_goto (tgt := 34) C dX7_find_180 (by decide) ?_
              refine dj_sub (lv2 := [(0, .ref (g.1 16)), (3, .int (x3 + 1))]) [0, 1] rfl ?_
              exact ih (x3 + 1) S20
            · exact hkx131 (x3, y15, r16.2)
          · exact dj_vret C dX7_find_115
        · refine dj_sub (lv2 := [(0, .ref (g.1 16))]) [0] rfl ?_
          exact hkx63 t12
      · refine dj_if_le (tgt := 53) C dX7_find_42 (by decide) (fun c21 => ?_) (fun c21 => ?_)
        · exact hk13 S
        · refine dj_aload_n C 0 rfl dX7_find_45 ?_
          refine dj_getr (r := 1) (k2 := 17) C dl_X7_12 rfl dz_16 rfl dX7_find_46 ?_
          refine dj_callVi (t := 0) (As := []) C dw_X7_49 ⟨_, _, rfl⟩ (by decide) dz_17 (ct_X0_stride l g 17 S dz_17) ⟨Nat.le_of_ble_eq_true rfl, Nat.le_of_ble_eq_true rfl⟩ rfl (Nat.le_of_ble_eq_true rfl) rfl dX7_find_49 (fun r22 => ?_)
          refine dj_pop C dX7_find_52 rfl ?_
          exact hk13 r22.2
set_option maxRecDepth 100000 in
set_option maxHeartbeats 4000000 in
theorem ct_X7_find (l : Launch) (g : dk_G) (x1 : Int32) (x2 : Int32) (S : dk_S)  : dk_M l g yX7_find cX7_find 5 none 3 65 [.ref (g.1 16), .int x1, .int x2] S (fX7_find x1 x2 S) dk_qv := by
  refine dk_enter "DuckWalk$Trial" (by decide +kernel) rfl (Nat.le_of_ble_eq_true rfl) [(0, .ref (g.1 16)), (1, .int x1), (2, .int x2)] rfl ?_
  intro p e s m args below meth c C
  unfold fX7_find
  refine dj_aload_n C 0 rfl dX7_find_0 ?_
  refine dj_getr (r := 1) (k2 := 17) C dl_X7_12 rfl dz_16 rfl dX7_find_1 ?_
  refine dj_iload_n C 1 rfl dX7_find_4 ?_
  refine dj_iload_n C 2 rfl dX7_find_5 ?_
  refine dj_iconst C dX7_find_6 dc_iconst_0 ?_
  refine dj_callVv (t := 0) (As := [.int x1, .int x2, .int 0]) C dw_X7_43 ⟨_, _, rfl⟩ (by decide) dz_17 (ct_X0_begin l g 17 x1 x2 0 S dz_17) ⟨Nat.le_of_ble_eq_true rfl, Nat.le_of_ble_eq_true rfl⟩ rfl (Nat.le_of_ble_eq_true rfl) rfl dX7_find_7 (fun r1 => ?_)
  refine dj_aload_n C 0 rfl dX7_find_10 ?_
  refine dj_dup C dX7_find_11 rfl ?_
  refine dj_getl C dl_X7_39 rfl dz_16 dX7_find_12 ?_
  refine dj_ldc2 C (dk_m3 126 rfl rfl) dX7_find_15 ?_
  refine dj_ladd C dX7_find_18 ?_
  refine dj_putl C dl_X7_39 dp_7_7 rfl dz_16 dX7_find_19 (fun S2 => ?_)
  refine dj_aload_n C 0 rfl dX7_find_22 ?_
  refine dj_iconst C dX7_find_23 dc_iconst_3 ?_
  refine dj_puti C dl_X7_18 dp_7_1 rfl dz_16 dX7_find_24 (fun S3 => ?_)
  refine dj_aload_n C 0 rfl dX7_find_27 ?_
  refine dj_iconst C dX7_find_28 dc_iconst_0 ?_
  refine dj_puti C dl_X7_22 dp_7_2 rfl dz_16 dX7_find_29 (fun S4 => ?_)
  refine dj_iconst C dX7_find_32 dc_iconst_0 ?_
  refine dj_istore_n (lv2 := [(0, .ref (g.1 16)), (3, .int 0)]) C [1, 0] dX7_find_33 rfl (by decide) rfl ?_
  refine jX7_find_L34 C rfl _ _ (fun t5 => ?_) (fun t9 => ?_) dk_FU 0 S4
  · refine dj_aload_n C 0 rfl dX7_find_63 ?_
    refine dj_aload_n C 0 rfl dX7_find_64 ?_
    refine dj_getr (r := 1) (k2 := 17) C dl_X7_12 rfl dz_16 rfl dX7_find_65 ?_
    refine dj_geti C dl_X7_53 rfl dz_17 dX7_find_68 ?_
    refine dj_iconst C dX7_find_71 dc_iconst_1 ?_
    refine dj_icmp_ne (tgt := 79) C dX7_find_72 (by decide) (fun c6 => ?_) (fun c6 => ?_)
    · refine dj_iconst C dX7_find_79 dc_iconst_5 ?_
      refine dj_puti C dl_X7_18 dp_7_1 rfl dz_16 dX7_find_80 (fun S7 => ?_)
      exact dj_vret C dX7_find_83
    · refine dj_iconst C dX7_find_75 dc_iconst_4 ?_
      refine dj_goto (tgt := 80) C dX7_find_76 (by decide) ?_
      refine dj_puti C dl_X7_18 dp_7_1 rfl dz_16 dX7_find_80 (fun S8 => ?_)
      exact dj_vret C dX7_find_83
  · refine dj_aload_n C 0 rfl dX7_find_131 ?_
    refine dj_aload_n C 0 rfl dX7_find_132 ?_
    refine dj_getr (r := 7) (k2 := 23) C dl_X7_35 rfl dz_16 rfl dX7_find_133 ?_
    refine dj_iload C 2 rfl dX7_find_136 ?_
    refine dj_lald (n := 200) C dz_23 (by decide) dX7_find_138 ?_
    refine dj_aload_n C 0 rfl dX7_find_139 ?_
    refine dj_getl C dl_X7_39 rfl dz_16 dX7_find_140 ?_
    refine dj_lsub C dX7_find_143 ?_
    refine dj_l2i C dX7_find_144 ?_
    refine dj_iload_n C 1 rfl dX7_find_145 ?_
    refine dj_callVv (t := 7) (As := [.int (((t9.2.2.2 23 t9.2.1.toNatClampNeg) - (t9.2.2.2 16 7)).toInt32), .int t9.1]) C dw_X7_66 ⟨_, _, rfl⟩ (by decide) dz_16 (ct_X7_closeTrip l g (((t9.2.2.2 23 t9.2.1.toNatClampNeg) - (t9.2.2.2 16 7)).toInt32) t9.1 t9.2.2) ⟨Nat.le_of_ble_eq_true rfl, Nat.le_of_ble_eq_true rfl⟩ rfl (Nat.le_of_ble_eq_true rfl) rfl dX7_find_146 (fun r10 => ?_)
    exact dj_vret C dX7_find_149
noncomputable def fX7_isOf (x1 : Int32) (S : dk_S) : Option (Int32 × dk_S) := if x1 = 0 then some (1, S) else if x1 = (S.1 16 1) then some (1, S) else dk_lt (fun t3 : dk_S => (if x1 = 2 then if (t3.1 16 1) = 7 then some (1, t3) else some (0, t3) else some (0, t3) : Option (Int32 × dk_S))) (fun k4 => if x1 = 1 then if (S.1 16 1) = 6 then some (1, S) else k4 S else k4 S)
set_option maxRecDepth 100000 in
set_option maxHeartbeats 4000000 in
theorem ct_X7_isOf (l : Launch) (g : dk_G) (x1 : Int32) (S : dk_S)  : dk_M l g yX7_isOf cX7_isOf 2 (some .boolean) 0 0 [.ref (g.1 16), .int x1] S (fX7_isOf x1 S) dk_qi := by
  refine dk_enter "DuckWalk$Trial" (by decide +kernel) rfl (Nat.le_of_ble_eq_true rfl) [(0, .ref (g.1 16)), (1, .int x1)] rfl ?_
  intro p e s m args below meth c C
  unfold fX7_isOf
  refine dj_iload_n C 1 rfl dX7_isOf_0 ?_
  refine dj_if_eq (tgt := 40) C dX7_isOf_1 (by decide) (fun c1 => ?_) (fun c1 => ?_)
  · refine dj_iconst C dX7_isOf_40 dc_iconst_1 ?_
    refine dj_goto (tgt := 45) C dX7_isOf_41 (by decide) ?_
    exact dj_zret C rfl dX7_isOf_45
  · refine dj_iload_n C 1 rfl dX7_isOf_4 ?_
    refine dj_aload_n C 0 rfl dX7_isOf_5 ?_
    refine dj_geti C dl_X7_18 rfl dz_16 dX7_isOf_6 ?_
    refine dj_icmp_eq (tgt := 40) C dX7_isOf_9 (by decide) (fun c2 => ?_) (fun c2 => ?_)
    · refine dj_iconst C dX7_isOf_40 dc_iconst_1 ?_
      refine dj_goto (tgt := 45) C dX7_isOf_41 (by decide) ?_
      exact dj_zret C rfl dX7_isOf_45
    · refine dj_iload_n C 1 rfl dX7_isOf_12 ?_
      refine dj_iconst C dX7_isOf_13 dc_iconst_1 ?_
      refine dj_join 26 (fun t3 : dk_S => [(0, .ref (g.1 16)), (1, .int x1)]) (fun t3 : dk_S => []) (fun t3 : dk_S => t3) (fun t3 => ?_) (fun k4 hk4 => ?_)
      · refine dj_iload_n C 1 rfl dX7_isOf_26 ?_
        refine dj_iconst C dX7_isOf_27 dc_iconst_2 ?_
        refine dj_icmp_ne (tgt := 44) C dX7_isOf_28 (by decide) (fun c5 => ?_) (fun c5 => ?_)
        · refine dj_iconst C dX7_isOf_44 dc_iconst_0 ?_
          exact dj_zret C rfl dX7_isOf_45
        · refine dj_aload_n C 0 rfl dX7_isOf_31 ?_
          refine dj_geti C dl_X7_18 rfl dz_16 dX7_isOf_32 ?_
          refine dj_bipush C dX7_isOf_35 dc_bipush_7 ?_
          refine dj_icmp_ne (tgt := 44) C dX7_isOf_37 (by decide) (fun c6 => ?_) (fun c6 => ?_)
          · refine dj_iconst C dX7_isOf_44 dc_iconst_0 ?_
            exact dj_zret C rfl dX7_isOf_45
          · refine dj_iconst C dX7_isOf_40 dc_iconst_1 ?_
            refine dj_goto (tgt := 45) C dX7_isOf_41 (by decide) ?_
            exact dj_zret C rfl dX7_isOf_45
      · refine dj_icmp_ne (tgt := 26) C dX7_isOf_14 (by decide) (fun c7 => ?_) (fun c7 => ?_)
        · exact hk4 S
        · refine dj_aload_n C 0 rfl dX7_isOf_17 ?_
          refine dj_geti C dl_X7_18 rfl dz_16 dX7_isOf_18 ?_
          refine dj_bipush C dX7_isOf_21 dc_bipush_6 ?_
          refine dj_icmp_eq (tgt := 40) C dX7_isOf_23 (by decide) (fun c8 => ?_) (fun c8 => ?_)
          · refine dj_iconst C dX7_isOf_40 dc_iconst_1 ?_
            refine dj_goto (tgt := 45) C dX7_isOf_41 (by decide) ?_
            exact dj_zret C rfl dX7_isOf_45
          · exact hk4 S
noncomputable def fX7_walksWell (x1 : Int32) (x2 : Int32) (S : dk_S) : Option (Int32 × dk_S) := (fX7_find x1 x2 S).bind (fun r1 => (fX7_isOf 1 r1).bind (fun r2 => dk_gd (decide (r2.1 = 0 ∨ r2.1 = 1)) (some (r2.1, r2.2))))
set_option maxRecDepth 100000 in
set_option maxHeartbeats 4000000 in
theorem ct_X7_walksWell (l : Launch) (g : dk_G) (x1 : Int32) (x2 : Int32) (S : dk_S)  : dk_M l g yX7_walksWell cX7_walksWell 3 (some .boolean) 4 89 [.ref (g.1 16), .int x1, .int x2] S (fX7_walksWell x1 x2 S) dk_qi := by
  refine dk_enter "DuckWalk$Trial" (by decide +kernel) rfl (Nat.le_of_ble_eq_true rfl) [(0, .ref (g.1 16)), (1, .int x1), (2, .int x2)] rfl ?_
  intro p e s m args below meth c C
  unfold fX7_walksWell
  refine dj_aload_n C 0 rfl dX7_walksWell_0 ?_
  refine dj_iload_n C 1 rfl dX7_walksWell_1 ?_
  refine dj_iload_n C 2 rfl dX7_walksWell_2 ?_
  refine dj_callVv (t := 7) (As := [.int x1, .int x2]) C dw_X7_89 ⟨_, _, rfl⟩ (by decide) dz_16 (ct_X7_find l g x1 x2 S) ⟨Nat.le_of_ble_eq_true rfl, Nat.le_of_ble_eq_true rfl⟩ rfl (Nat.le_of_ble_eq_true rfl) rfl dX7_walksWell_3 (fun r1 => ?_)
  refine dj_aload_n C 0 rfl dX7_walksWell_6 ?_
  refine dj_iconst C dX7_walksWell_7 dc_iconst_1 ?_
  refine dj_callVi (t := 7) (As := [.int 1]) C dw_X7_92 ⟨_, _, rfl⟩ (by decide) dz_16 (ct_X7_isOf l g 1 r1) ⟨Nat.le_of_ble_eq_true rfl, Nat.le_of_ble_eq_true rfl⟩ rfl (Nat.le_of_ble_eq_true rfl) rfl dX7_walksWell_8 (fun r2 => ?_)
  exact dj_zretg C dX7_walksWell_11
noncomputable def fX7_tells (x1 : Int32) (S : dk_S) : Option (Int32 × dk_S) := if x1 = 1 then some (S.1 16 3, S) else if x1 = 2 then some ((S.1 16 4) - (S.1 16 3), S) else if x1 = 6 then (fX1_limit 18 S).bind (fun r4 => some (r4.1 - (r4.2.1 16 3), r4.2)) else if x1 = 7 then some (S.1 16 3, S) else some (S.1 17 6, S)
set_option maxRecDepth 100000 in
set_option maxHeartbeats 4000000 in
theorem ct_X7_tells (l : Launch) (g : dk_G) (x1 : Int32) (S : dk_S)  : dk_M l g yX7_tells cX7_tells 2 (some .int) 1 20 [.ref (g.1 16), .int x1] S (fX7_tells x1 S) dk_qi := by
  refine dk_enter "DuckWalk$Trial" (by decide +kernel) rfl (Nat.le_of_ble_eq_true rfl) [(0, .ref (g.1 16)), (1, .int x1)] rfl ?_
  intro p e s m args below meth c C
  unfold fX7_tells
  refine dj_iload_n C 1 rfl dX7_tells_0 ?_
  refine dj_ite (fun h1 => ?_) (fun h1 => ?_)
  · refine dj_tsw_in (off := 43) (tgt := 44) C dX7_tells_1 (by rw [h1]; decide) (by rw [h1]; decide) (by rw [h1]; rfl) (by decide) ?_
    refine dj_aload_n C 0 rfl dX7_tells_44 ?_
    refine dj_geti C dl_X7_25 rfl dz_16 dX7_tells_45 ?_
    exact dj_iret C dX7_tells_48
  · refine dj_ite (fun h2 => ?_) (fun h2 => ?_)
    · refine dj_tsw_in (off := 48) (tgt := 49) C dX7_tells_1 (by rw [h2]; decide) (by rw [h2]; decide) (by rw [h2]; rfl) (by decide) ?_
      refine dj_aload_n C 0 rfl dX7_tells_49 ?_
      refine dj_geti C dl_X7_28 rfl dz_16 dX7_tells_50 ?_
      refine dj_aload_n C 0 rfl dX7_tells_53 ?_
      refine dj_geti C dl_X7_25 rfl dz_16 dX7_tells_54 ?_
      refine dj_isub C dX7_tells_57 ?_
      exact dj_iret C dX7_tells_58
    · refine dj_ite (fun h3 => ?_) (fun h3 => ?_)
      · refine dj_tsw_in (off := 58) (tgt := 59) C dX7_tells_1 (by rw [h3]; decide) (by rw [h3]; decide) (by rw [h3]; rfl) (by decide) ?_
        refine dj_aload_n C 0 rfl dX7_tells_59 ?_
        refine dj_getr (r := 1) (k2 := 17) C dl_X7_12 rfl dz_16 rfl dX7_tells_60 ?_
        refine dj_getr (r := 1) (k2 := 18) C dl_X7_79 rfl dz_17 rfl dX7_tells_63 ?_
        refine dj_callVi (t := 1) (As := []) C dw_X7_83 ⟨_, _, rfl⟩ (by decide) dz_18 (ct_X1_limit l g 18 S dz_18) ⟨Nat.le_of_ble_eq_true rfl, Nat.le_of_ble_eq_true rfl⟩ rfl (Nat.le_of_ble_eq_true rfl) rfl dX7_tells_66 (fun r4 => ?_)
        refine dj_aload_n C 0 rfl dX7_tells_69 ?_
        refine dj_geti C dl_X7_25 rfl dz_16 dX7_tells_70 ?_
        refine dj_isub C dX7_tells_73 ?_
        exact dj_iret C dX7_tells_74
      · refine dj_ite (fun h5 => ?_) (fun h5 => ?_)
        · refine dj_tsw_in (off := 43) (tgt := 44) C dX7_tells_1 (by rw [h5]; decide) (by rw [h5]; decide) (by rw [h5]; rfl) (by decide) ?_
          refine dj_aload_n C 0 rfl dX7_tells_44 ?_
          refine dj_geti C dl_X7_25 rfl dz_16 dX7_tells_45 ?_
          exact dj_iret C dX7_tells_48
        · refine dj_tsw_d (tgt := 75) C dX7_tells_1 ?_ (by decide) ?_
          · have e1 : x1.toInt ≠ 1 := fun e => h1 (dk_teq e (by decide))
            have e2 : x1.toInt ≠ 2 := fun e => h2 (dk_teq e (by decide))
            have e6 : x1.toInt ≠ 6 := fun e => h3 (dk_teq e (by decide))
            have e7 : x1.toInt ≠ 7 := fun e => h5 (dk_teq e (by decide))
            rcases (show x1.toInt < 1 ∨ 7 < x1.toInt ∨ x1.toInt = 3 ∨ x1.toInt = 4 ∨ x1.toInt = 5 by omega) with h | h | h | h | h
            · exact Or.inl h
            · exact Or.inr (Or.inl h)
            · exact Or.inr (Or.inr (by rw [h]; rfl))
            · exact Or.inr (Or.inr (by rw [h]; rfl))
            · exact Or.inr (Or.inr (by rw [h]; rfl))
          · refine dj_aload_n C 0 rfl dX7_tells_75 ?_
            refine dj_getr (r := 1) (k2 := 17) C dl_X7_12 rfl dz_16 rfl dX7_tells_76 ?_
            refine dj_geti C dl_X7_96 rfl dz_17 dX7_tells_79 ?_
            exact dj_iret C dX7_tells_82
