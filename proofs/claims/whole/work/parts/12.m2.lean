noncomputable def fJ13_bitCount_95d88 (x0 : Int64) (S : dk_S) : Option (Int32 × dk_S) := dk_lt (x0 - (((x0.toUInt64 >>> ((1 : Int32).toInt64.toUInt64 &&& Int64.toUInt64 63)).toInt64) &&& 6148914691236517205)) (fun y1 : Int64 => dk_lt ((y1 &&& 3689348814741910323) + (((y1.toUInt64 >>> ((2 : Int32).toInt64.toUInt64 &&& Int64.toUInt64 63)).toInt64) &&& 3689348814741910323)) (fun y2 : Int64 => dk_lt ((y2 + ((y2.toUInt64 >>> ((4 : Int32).toInt64.toUInt64 &&& Int64.toUInt64 63)).toInt64)) &&& 1085102592571150095) (fun y3 : Int64 => dk_lt (y3 + ((y3.toUInt64 >>> ((8 : Int32).toInt64.toUInt64 &&& Int64.toUInt64 63)).toInt64)) (fun y4 : Int64 => dk_lt (y4 + ((y4.toUInt64 >>> ((16 : Int32).toInt64.toUInt64 &&& Int64.toUInt64 63)).toInt64)) (fun y5 : Int64 => dk_lt (y5 + ((y5.toUInt64 >>> ((32 : Int32).toInt64.toUInt64 &&& Int64.toUInt64 63)).toInt64)) (fun y6 : Int64 => some (y6.toInt32 &&& 127, S)))))))
set_option maxRecDepth 100000 in
set_option maxHeartbeats 4000000 in
theorem ct_J13_bitCount_95d88 (l : Launch) (g : dk_G) (x0 : Int64) (S : dk_S)  : dk_M l g yJ13_bitCount_95d88 cJ13_bitCount_95d88 2 (some .int) 0 0 [.long x0] S (fJ13_bitCount_95d88 x0 S) dk_qi := by
  refine dk_enter "java/lang/Long" (by decide +kernel) rfl (Nat.le_of_ble_eq_true rfl) [(0, .long x0)] rfl ?_
  intro p e s m args below meth c C
  unfold fJ13_bitCount_95d88
  refine dj_lload_n C 0 rfl dJ13_bitCount_95d88_0 ?_
  refine dj_lload_n C 0 rfl dJ13_bitCount_95d88_1 ?_
  refine dj_iconst C dJ13_bitCount_95d88_2 dc_iconst_1 ?_
  refine dj_lushr C dJ13_bitCount_95d88_3 ?_
  refine dj_ldc2 C (dk_m3 153 rfl rfl) dJ13_bitCount_95d88_4 ?_
  refine dj_land C dJ13_bitCount_95d88_7 ?_
  refine dj_lsub C dJ13_bitCount_95d88_8 ?_
  refine dj_ltl (fun y1 => ?_)
  refine dj_lstore_n (lv2 := [(0, .long y1)]) C [0] dJ13_bitCount_95d88_9 rfl (by decide) rfl ?_
  refine dj_lload_n C 0 rfl dJ13_bitCount_95d88_10 ?_
  refine dj_ldc2 C (dk_m3 154 rfl rfl) dJ13_bitCount_95d88_11 ?_
  refine dj_land C dJ13_bitCount_95d88_14 ?_
  refine dj_lload_n C 0 rfl dJ13_bitCount_95d88_15 ?_
  refine dj_iconst C dJ13_bitCount_95d88_16 dc_iconst_2 ?_
  refine dj_lushr C dJ13_bitCount_95d88_17 ?_
  refine dj_ldc2 C (dk_m3 154 rfl rfl) dJ13_bitCount_95d88_18 ?_
  refine dj_land C dJ13_bitCount_95d88_21 ?_
  refine dj_ladd C dJ13_bitCount_95d88_22 ?_
  refine dj_ltl (fun y2 => ?_)
  refine dj_lstore_n (lv2 := [(0, .long y2)]) C [0] dJ13_bitCount_95d88_23 rfl (by decide) rfl ?_
  refine dj_lload_n C 0 rfl dJ13_bitCount_95d88_24 ?_
  refine dj_lload_n C 0 rfl dJ13_bitCount_95d88_25 ?_
  refine dj_iconst C dJ13_bitCount_95d88_26 dc_iconst_4 ?_
  refine dj_lushr C dJ13_bitCount_95d88_27 ?_
  refine dj_ladd C dJ13_bitCount_95d88_28 ?_
  refine dj_ldc2 C (dk_m3 155 rfl rfl) dJ13_bitCount_95d88_29 ?_
  refine dj_land C dJ13_bitCount_95d88_32 ?_
  refine dj_ltl (fun y3 => ?_)
  refine dj_lstore_n (lv2 := [(0, .long y3)]) C [0] dJ13_bitCount_95d88_33 rfl (by decide) rfl ?_
  refine dj_lload_n C 0 rfl dJ13_bitCount_95d88_34 ?_
  refine dj_lload_n C 0 rfl dJ13_bitCount_95d88_35 ?_
  refine dj_bipush C dJ13_bitCount_95d88_36 dc_bipush_8 ?_
  refine dj_lushr C dJ13_bitCount_95d88_38 ?_
  refine dj_ladd C dJ13_bitCount_95d88_39 ?_
  refine dj_ltl (fun y4 => ?_)
  refine dj_lstore_n (lv2 := [(0, .long y4)]) C [0] dJ13_bitCount_95d88_40 rfl (by decide) rfl ?_
  refine dj_lload_n C 0 rfl dJ13_bitCount_95d88_41 ?_
  refine dj_lload_n C 0 rfl dJ13_bitCount_95d88_42 ?_
  refine dj_bipush C dJ13_bitCount_95d88_43 dc_bipush_16 ?_
  refine dj_lushr C dJ13_bitCount_95d88_45 ?_
  refine dj_ladd C dJ13_bitCount_95d88_46 ?_
  refine dj_ltl (fun y5 => ?_)
  refine dj_lstore_n (lv2 := [(0, .long y5)]) C [0] dJ13_bitCount_95d88_47 rfl (by decide) rfl ?_
  refine dj_lload_n C 0 rfl dJ13_bitCount_95d88_48 ?_
  refine dj_lload_n C 0 rfl dJ13_bitCount_95d88_49 ?_
  refine dj_bipush C dJ13_bitCount_95d88_50 dc_bipush_32 ?_
  refine dj_lushr C dJ13_bitCount_95d88_52 ?_
  refine dj_ladd C dJ13_bitCount_95d88_53 ?_
  refine dj_ltl (fun y6 => ?_)
  refine dj_lstore_n (lv2 := [(0, .long y6)]) C [0] dJ13_bitCount_95d88_54 rfl (by decide) rfl ?_
  refine dj_lload_n C 0 rfl dJ13_bitCount_95d88_55 ?_
  refine dj_l2i C dJ13_bitCount_95d88_56 ?_
  refine dj_bipush C dJ13_bitCount_95d88_57 dc_bipush_127 ?_
  refine dj_iand C dJ13_bitCount_95d88_59 ?_
  exact dj_iret C dJ13_bitCount_95d88_60
noncomputable def fX7_unlikePaces_L18  : Nat → Int64 → Int64 → Int32 → dk_S → Option (Int32 × dk_S)
  | 0, _, _, _, _ => none
  | n + 1, x3, x5, x7, S => if 400 ≤ x7 then (fJ13_bitCount_95d88 x3 S).bind (fun r3 => (fJ13_bitCount_95d88 x5 r3.2).bind (fun r4 => some (r3.1 + r4.1, r4.2))) else (fX0_stride 17 S).bind (fun r5 => if r5.1 = 0 then (fJ13_bitCount_95d88 x3 r5.2).bind (fun r7 => (fJ13_bitCount_95d88 x5 r7.2).bind (fun r8 => some (r7.1 + r8.1, r8.2))) else dk_lt (fun t9 : Int64 × Int64 × dk_S => (fX7_unlikePaces_L18 n t9.1 t9.2.1 (x7 + 1) t9.2.2 : Option (Int32 × dk_S))) (fun k10 => if 64 ≤ (r5.2.1 17 4) then dk_lt (x5 ||| (1 <<< (((r5.2.1 17 4) - 64).toInt64 &&& 63))) (fun y12 : Int64 => k10 (x3, y12, r5.2)) else dk_lt (x3 ||| (1 <<< ((r5.2.1 17 4).toInt64 &&& 63))) (fun y13 : Int64 => k10 (y13, x5, r5.2))))
noncomputable def fX7_unlikePaces (x1 : Int32) (x2 : Int32) (S : dk_S) : Option (Int32 × dk_S) := (fX0_begin 17 x1 x2 0 S).bind (fun r1 => fX7_unlikePaces_L18 dk_FU 0 0 0 r1)
set_option maxRecDepth 100000 in
set_option maxHeartbeats 4000000 in
theorem jX7_unlikePaces_L18 {p : Program} {l : Launch} {e : Env} {R : Room} {s : State} {m : MethodId} {args : Array Value} {below : List Frame} {meth : Method} {c : Code} {g : dk_G} (C : dk_C p l e R s m args below meth c g cX7_unlikePaces "DuckWalk$Trial" 8 (some .int)) (hR : R = { frames := 3, cells := 0, slots := 0, locals := 65 })    : ∀ (n : Nat) (x3 : Int64) (x5 : Int64) (x7 : Int32) (S : dk_S), dk_J p l e R s m args below meth c g 8 dk_qi 18 [(0, .ref (g.1 16)), (3, .long x3), (5, .long x5), (7, .int x7)] [] S (fX7_unlikePaces_L18 n x3 x5 x7 S) some := by
  subst hR
  intro n
  induction n with
  | zero =>
    intro x3 x5 x7 S
    exact dj_none
  | succ n ih =>
    intro x3 x5 x7 S
    rw [fX7_unlikePaces_L18]
    refine dj_iload C 3 rfl dX7_unlikePaces_18 ?_
    refine dj_sipush C dX7_unlikePaces_20 dc_sipush_400 ?_
    refine dj_icmp_ge (tgt := 86) C dX7_unlikePaces_23 (by decide) (fun c2 => ?_) (fun c2 => ?_)
    · refine dj_lload_n C 1 rfl dX7_unlikePaces_86 ?_
      refine dj_callSi (As := [.long x3]) C dw_X7_99 (ct_J13_bitCount_95d88 l g x3 S) ⟨Nat.le_of_ble_eq_true rfl, Nat.le_of_ble_eq_true rfl⟩ rfl (Nat.le_of_ble_eq_true rfl) rfl dX7_unlikePaces_87 (fun r3 => ?_)
      refine dj_lload C 2 rfl dX7_unlikePaces_90 ?_
      refine dj_callSi (As := [.long x5]) C dw_X7_99 (ct_J13_bitCount_95d88 l g x5 r3.2) ⟨Nat.le_of_ble_eq_true rfl, Nat.le_of_ble_eq_true rfl⟩ rfl (Nat.le_of_ble_eq_true rfl) rfl dX7_unlikePaces_92 (fun r4 => ?_)
      refine dj_iadd C dX7_unlikePaces_95 ?_
      exact dj_iret C dX7_unlikePaces_96
    · refine dj_aload_n C 0 rfl dX7_unlikePaces_26 ?_
      refine dj_getr (r := 1) (k2 := 17) C dl_X7_12 rfl dz_16 rfl dX7_unlikePaces_27 ?_
      refine dj_callVi (t := 0) (As := []) C dw_X7_49 ⟨_, _, rfl⟩ (by decide) dz_17 (ct_X0_stride l g 17 S dz_17) ⟨Nat.le_of_ble_eq_true rfl, Nat.le_of_ble_eq_true rfl⟩ rfl (Nat.le_of_ble_eq_true rfl) rfl dX7_unlikePaces_30 (fun r5 => ?_)
      refine dj_if_eq (tgt := 86) C dX7_unlikePaces_33 (by decide) (fun c6 => ?_) (fun c6 => ?_)
      · refine dj_lload_n C 1 rfl dX7_unlikePaces_86 ?_
        refine dj_callSi (As := [.long x3]) C dw_X7_99 (ct_J13_bitCount_95d88 l g x3 r5.2) ⟨Nat.le_of_ble_eq_true rfl, Nat.le_of_ble_eq_true rfl⟩ rfl (Nat.le_of_ble_eq_true rfl) rfl dX7_unlikePaces_87 (fun r7 => ?_)
        refine dj_lload C 2 rfl dX7_unlikePaces_90 ?_
        refine dj_callSi (As := [.long x5]) C dw_X7_99 (ct_J13_bitCount_95d88 l g x5 r7.2) ⟨Nat.le_of_ble_eq_true rfl, Nat.le_of_ble_eq_true rfl⟩ rfl (Nat.le_of_ble_eq_true rfl) rfl dX7_unlikePaces_92 (fun r8 => ?_)
        refine dj_iadd C dX7_unlikePaces_95 ?_
        exact dj_iret C dX7_unlikePaces_96
      · refine dj_aload_n C 0 rfl dX7_unlikePaces_36 ?_
        refine dj_getr (r := 1) (k2 := 17) C dl_X7_12 rfl dz_16 rfl dX7_unlikePaces_37 ?_
        refine dj_geti C dl_X7_56 rfl dz_17 dX7_unlikePaces_40 ?_
        refine dj_bipush C dX7_unlikePaces_43 dc_bipush_64 ?_
        refine dj_join 80 (fun t9 : Int64 × Int64 × dk_S => [(0, .ref (g.1 16)), (3, .long t9.1), (5, .long t9.2.1), (7, .int x7)]) (fun t9 : Int64 × Int64 × dk_S => []) (fun t9 : Int64 × Int64 × dk_S => t9.2.2) (fun t9 => ?_) (fun k10 hk10 => ?_)
        · refine dj_iinc (lv2 := [(0, .ref (g.1 16)), (3, .long t9.1), (5, .long t9.2.1), (7, .int (x7 + 1))]) C 3 rfl [1, 2, 3, 0] dX7_unlikePaces_80 dc_iconst_1 (by decide) rfl ?_
          refine dj_goto (tgt := 18) C dX7_unlikePaces_83 (by decide) ?_
          exact ih t9.1 t9.2.1 (x7 + 1) t9.2.2
        · refine dj_icmp_ge (tgt := 63) C dX7_unlikePaces_45 (by decide) (fun c11 => ?_) (fun c11 => ?_)
          · refine dj_lload C 2 rfl dX7_unlikePaces_63 ?_
            refine dj_lconst (v := 1) C dX7_unlikePaces_65 rfl ?_
            refine dj_aload_n C 0 rfl dX7_unlikePaces_66 ?_
            refine dj_getr (r := 1) (k2 := 17) C dl_X7_12 rfl dz_16 rfl dX7_unlikePaces_67 ?_
            refine dj_geti C dl_X7_56 rfl dz_17 dX7_unlikePaces_70 ?_
            refine dj_bipush C dX7_unlikePaces_73 dc_bipush_64 ?_
            refine dj_isub C dX7_unlikePaces_75 ?_
            refine dj_lshl C dX7_unlikePaces_76 ?_
            refine dj_lor C dX7_unlikePaces_77 ?_
            refine dj_ltl (fun y12 => ?_)
            refine dj_lstore (lv2 := [(0, .ref (g.1 16)), (3, .long x3), (5, .long y12), (7, .int x7)]) C [1, 2, 0, 3] dX7_unlikePaces_78 (by decide) rfl ?_
            exact hk10 (x3, y12, r5.2)
          · refine dj_lload_n C 1 rfl dX7_unlikePaces_48 ?_
            refine dj_lconst (v := 1) C dX7_unlikePaces_49 rfl ?_
            refine dj_aload_n C 0 rfl dX7_unlikePaces_50 ?_
            refine dj_getr (r := 1) (k2 := 17) C dl_X7_12 rfl dz_16 rfl dX7_unlikePaces_51 ?_
            refine dj_geti C dl_X7_56 rfl dz_17 dX7_unlikePaces_54 ?_
            refine dj_lshl C dX7_unlikePaces_57 ?_
            refine dj_lor C dX7_unlikePaces_58 ?_
            refine dj_ltl (fun y13 => ?_)
            refine dj_lstore_n (lv2 := [(0, .ref (g.1 16)), (3, .long y13), (5, .long x5), (7, .int x7)]) C [1, 0, 2, 3] dX7_unlikePaces_59 rfl (by decide) rfl ?_
            refine dj_goto (tgt := 80) C dX7_unlikePaces_60 (by decide) ?_
            exact hk10 (y13, x5, r5.2)
set_option maxRecDepth 100000 in
set_option maxHeartbeats 4000000 in
theorem ct_X7_unlikePaces (l : Launch) (g : dk_G) (x1 : Int32) (x2 : Int32) (S : dk_S)  : dk_M l g yX7_unlikePaces cX7_unlikePaces 8 (some .int) 3 65 [.ref (g.1 16), .int x1, .int x2] S (fX7_unlikePaces x1 x2 S) dk_qi := by
  refine dk_enter "DuckWalk$Trial" (by decide +kernel) rfl (Nat.le_of_ble_eq_true rfl) [(0, .ref (g.1 16)), (1, .int x1), (2, .int x2)] rfl ?_
  intro p e s m args below meth c C
  unfold fX7_unlikePaces
  refine dj_lconst (v := 0) C dX7_unlikePaces_0 rfl ?_
  refine dj_lstore_n (lv2 := [(0, .ref (g.1 16)), (1, .int x1), (2, .int x2), (3, .long 0)]) C [1, 2, 3, 0] dX7_unlikePaces_1 rfl (by decide) rfl ?_
  refine dj_lconst (v := 0) C dX7_unlikePaces_2 rfl ?_
  refine dj_lstore (lv2 := [(0, .ref (g.1 16)), (1, .int x1), (2, .int x2), (3, .long 0), (5, .long 0)]) C [1, 2, 3, 4, 0] dX7_unlikePaces_3 (by decide) rfl ?_
  refine dj_aload_n C 0 rfl dX7_unlikePaces_5 ?_
  refine dj_getr (r := 1) (k2 := 17) C dl_X7_12 rfl dz_16 rfl dX7_unlikePaces_6 ?_
  refine dj_iload_n C 1 rfl dX7_unlikePaces_9 ?_
  refine dj_iload_n C 2 rfl dX7_unlikePaces_10 ?_
  refine dj_iconst C dX7_unlikePaces_11 dc_iconst_0 ?_
  refine dj_callVv (t := 0) (As := [.int x1, .int x2, .int 0]) C dw_X7_43 ⟨_, _, rfl⟩ (by decide) dz_17 (ct_X0_begin l g 17 x1 x2 0 S dz_17) ⟨Nat.le_of_ble_eq_true rfl, Nat.le_of_ble_eq_true rfl⟩ rfl (Nat.le_of_ble_eq_true rfl) rfl dX7_unlikePaces_12 (fun r1 => ?_)
  refine dj_iconst C dX7_unlikePaces_15 dc_iconst_0 ?_
  refine dj_istore (lv2 := [(0, .ref (g.1 16)), (3, .long 0), (5, .long 0), (7, .int 0)]) C [1, 4, 5, 0] dX7_unlikePaces_16 (by decide) rfl ?_
  refine jX7_unlikePaces_L18 C rfl dk_FU 0 0 0 r1
noncomputable def fX7_span_L4 (x1 : Int32) : Nat → Int32 → Int32 → dk_S → Option (Int32 × dk_S)
  | 0, _, _, _ => none
  | n + 1, x2, x3, S => if 100 ≤ x3 then some (x2, S) else (fX7_walksWell x3 x1 S).bind (fun r2 => dk_lt (if r2.1 = 0 then 0 else 1) (fun y3 : Int32 => dk_lt (x2 + y3) (fun y4 : Int32 => fX7_span_L4 x1 n y4 (x3 + 1) r2.2)))
noncomputable def fX7_span (x1 : Int32) (S : dk_S) : Option (Int32 × dk_S) := fX7_span_L4 x1 dk_FU 0 0 S
set_option maxRecDepth 100000 in
set_option maxHeartbeats 4000000 in
theorem jX7_span_L4 {p : Program} {l : Launch} {e : Env} {R : Room} {s : State} {m : MethodId} {args : Array Value} {below : List Frame} {meth : Method} {c : Code} {g : dk_G} (C : dk_C p l e R s m args below meth c g cX7_span "DuckWalk$Trial" 4 (some .int)) (hR : R = { frames := 5, cells := 0, slots := 0, locals := 111 }) (x1 : Int32)   : ∀ (n : Nat) (x2 : Int32) (x3 : Int32) (S : dk_S), dk_J p l e R s m args below meth c g 4 dk_qi 4 [(0, .ref (g.1 16)), (1, .int x1), (2, .int x2), (3, .int x3)] [] S (fX7_span_L4 x1 n x2 x3 S) some := by
  subst hR
  intro n
  induction n with
  | zero =>
    intro x2 x3 S
    exact dj_none
  | succ n ih =>
    intro x2 x3 S
    rw [fX7_span_L4]
    refine dj_iload_n C 3 rfl dX7_span_4 ?_
    refine dj_bipush C dX7_span_5 dc_bipush_100 ?_
    refine dj_icmp_ge (tgt := 33) C dX7_span_7 (by decide) (fun c1 => ?_) (fun c1 => ?_)
    · refine dj_iload_n C 2 rfl dX7_span_33 ?_
      exact dj_iret C dX7_span_34
    · refine dj_iload_n C 2 rfl dX7_span_10 ?_
      refine dj_aload_n C 0 rfl dX7_span_11 ?_
      refine dj_iload_n C 3 rfl dX7_span_12 ?_
      refine dj_iload_n C 1 rfl dX7_span_13 ?_
      refine dj_callVi (t := 7) (As := [.int x3, .int x1]) C dw_X7_105 ⟨_, _, rfl⟩ (by decide) dz_16 (ct_X7_walksWell l g x3 x1 S) ⟨Nat.le_of_ble_eq_true rfl, Nat.le_of_ble_eq_true rfl⟩ rfl (Nat.le_of_ble_eq_true rfl) rfl dX7_span_14 (fun r2 => ?_)
      refine dj_dia 25 [.int x2] (fun y3 => ?_) (fun hd3 => ?_)
      · refine dj_iadd C dX7_span_25 ?_
        refine dj_lti (fun y4 => ?_)
        refine dj_istore_n (lv2 := [(0, .ref (g.1 16)), (1, .int x1), (2, .int y4), (3, .int x3)]) C [1, 2, 0, 3] dX7_span_26 rfl (by decide) rfl ?_
        refine dj_iinc (lv2 := [(0, .ref (g.1 16)), (1, .int x1), (2, .int y4), (3, .int (x3 + 1))]) C 3 rfl [1, 2, 3, 0] dX7_span_27 dc_iconst_1 (by decide) rfl ?_
        refine dj_goto (tgt := 4) C dX7_span_30 (by decide) ?_
        exact ih y4 (x3 + 1) r2.2
      · refine dj_ltite ?_
        refine dj_if_eq (tgt := 24) C dX7_span_17 (by decide) (fun c5 => ?_) (fun c5 => ?_)
        · refine dj_iconst C dX7_span_24 dc_iconst_0 ?_
          exact hd3 _
        · refine dj_iconst C dX7_span_20 dc_iconst_1 ?_
          refine dj_goto (tgt := 25) C dX7_span_21 (by decide) ?_
          exact hd3 _
set_option maxRecDepth 100000 in
set_option maxHeartbeats 4000000 in
theorem ct_X7_span (l : Launch) (g : dk_G) (x1 : Int32) (S : dk_S)  : dk_M l g yX7_span cX7_span 4 (some .int) 5 111 [.ref (g.1 16), .int x1] S (fX7_span x1 S) dk_qi := by
  refine dk_enter "DuckWalk$Trial" (by decide +kernel) rfl (Nat.le_of_ble_eq_true rfl) [(0, .ref (g.1 16)), (1, .int x1)] rfl ?_
  intro p e s m args below meth c C
  unfold fX7_span
  refine dj_iconst C dX7_span_0 dc_iconst_0 ?_
  refine dj_istore_n (lv2 := [(0, .ref (g.1 16)), (1, .int x1), (2, .int 0)]) C [1, 2, 0] dX7_span_1 rfl (by decide) rfl ?_
  refine dj_iconst C dX7_span_2 dc_iconst_0 ?_
  refine dj_istore_n (lv2 := [(0, .ref (g.1 16)), (1, .int x1), (2, .int 0), (3, .int 0)]) C [1, 2, 3, 0] dX7_span_3 rfl (by decide) rfl ?_
  refine jX7_span_L4 C rfl x1 dk_FU 0 0 S
noncomputable def fX8_noRow (x0 : Int32) (S : dk_S) : Option (Int32 × dk_S) := (fX8_isOutside x0 0 5 S).bind (fun r1 => dk_gd (decide (r1.1 = 0 ∨ r1.1 = 1)) (some (r1.1, r1.2)))
set_option maxRecDepth 100000 in
set_option maxHeartbeats 4000000 in
theorem ct_X8_noRow (l : Launch) (g : dk_G) (x0 : Int32) (S : dk_S)  : dk_M l g yX8_noRow cX8_noRow 1 (some .boolean) 1 22 [.int x0] S (fX8_noRow x0 S) dk_qi := by
  refine dk_enter "DuckWalk" (by decide +kernel) rfl (Nat.le_of_ble_eq_true rfl) [(0, .int x0)] rfl ?_
  intro p e s m args below meth c C
  unfold fX8_noRow
  refine dj_iload_n C 0 rfl dX8_noRow_0 ?_
  refine dj_iconst C dX8_noRow_1 dc_iconst_0 ?_
  refine dj_iconst C dX8_noRow_2 dc_iconst_5 ?_
  refine dj_callSi (As := [.int x0, .int 0, .int 5]) C dw_X8_90 (ct_X8_isOutside l g x0 0 5 S) ⟨Nat.le_of_ble_eq_true rfl, Nat.le_of_ble_eq_true rfl⟩ rfl (Nat.le_of_ble_eq_true rfl) rfl dX8_noRow_3 (fun r1 => ?_)
  exact dj_zretg C dX8_noRow_6
noncomputable def fX8_noText (x0 : Int32) (S : dk_S) : Option (Int32 × dk_S) := (fX8_isOutside x0 0 3 S).bind (fun r1 => dk_gd (decide (r1.1 = 0 ∨ r1.1 = 1)) (some (r1.1, r1.2)))
set_option maxRecDepth 100000 in
set_option maxHeartbeats 4000000 in
theorem ct_X8_noText (l : Launch) (g : dk_G) (x0 : Int32) (S : dk_S)  : dk_M l g yX8_noText cX8_noText 1 (some .boolean) 1 22 [.int x0] S (fX8_noText x0 S) dk_qi := by
  refine dk_enter "DuckWalk" (by decide +kernel) rfl (Nat.le_of_ble_eq_true rfl) [(0, .int x0)] rfl ?_
  intro p e s m args below meth c C
  unfold fX8_noText
  refine dj_iload_n C 0 rfl dX8_noText_0 ?_
  refine dj_iconst C dX8_noText_1 dc_iconst_0 ?_
  refine dj_iconst C dX8_noText_2 dc_iconst_3 ?_
  refine dj_callSi (As := [.int x0, .int 0, .int 3]) C dw_X8_90 (ct_X8_isOutside l g x0 0 3 S) ⟨Nat.le_of_ble_eq_true rfl, Nat.le_of_ble_eq_true rfl⟩ rfl (Nat.le_of_ble_eq_true rfl) rfl dX8_noText_3 (fun r1 => ?_)
  exact dj_zretg C dX8_noText_6
noncomputable def fX8_noWalker (x0 : Int32) (S : dk_S) : Option (Int32 × dk_S) := (fX8_isOutside x0 0 3 S).bind (fun r1 => dk_gd (decide (r1.1 = 0 ∨ r1.1 = 1)) (some (r1.1, r1.2)))
set_option maxRecDepth 100000 in
set_option maxHeartbeats 4000000 in
theorem ct_X8_noWalker (l : Launch) (g : dk_G) (x0 : Int32) (S : dk_S)  : dk_M l g yX8_noWalker cX8_noWalker 1 (some .boolean) 1 22 [.int x0] S (fX8_noWalker x0 S) dk_qi := by
  refine dk_enter "DuckWalk" (by decide +kernel) rfl (Nat.le_of_ble_eq_true rfl) [(0, .int x0)] rfl ?_
  intro p e s m args below meth c C
  unfold fX8_noWalker
  refine dj_iload_n C 0 rfl dX8_noWalker_0 ?_
  refine dj_iconst C dX8_noWalker_1 dc_iconst_0 ?_
  refine dj_iconst C dX8_noWalker_2 dc_iconst_3 ?_
  refine dj_callSi (As := [.int x0, .int 0, .int 3]) C dw_X8_90 (ct_X8_isOutside l g x0 0 3 S) ⟨Nat.le_of_ble_eq_true rfl, Nat.le_of_ble_eq_true rfl⟩ rfl (Nat.le_of_ble_eq_true rfl) rfl dX8_noWalker_3 (fun r1 => ?_)
  exact dj_zretg C dX8_noWalker_6
noncomputable def fX8_noBoard (x0 : Int32) (S : dk_S) : Option (Int32 × dk_S) := (fX8_isOutside x0 0 3 S).bind (fun r1 => dk_gd (decide (r1.1 = 0 ∨ r1.1 = 1)) (some (r1.1, r1.2)))
set_option maxRecDepth 100000 in
set_option maxHeartbeats 4000000 in
theorem ct_X8_noBoard (l : Launch) (g : dk_G) (x0 : Int32) (S : dk_S)  : dk_M l g yX8_noBoard cX8_noBoard 1 (some .boolean) 1 22 [.int x0] S (fX8_noBoard x0 S) dk_qi := by
  refine dk_enter "DuckWalk" (by decide +kernel) rfl (Nat.le_of_ble_eq_true rfl) [(0, .int x0)] rfl ?_
  intro p e s m args below meth c C
  unfold fX8_noBoard
  refine dj_iload_n C 0 rfl dX8_noBoard_0 ?_
  refine dj_iconst C dX8_noBoard_1 dc_iconst_0 ?_
  refine dj_iconst C dX8_noBoard_2 dc_iconst_3 ?_
  refine dj_callSi (As := [.int x0, .int 0, .int 3]) C dw_X8_90 (ct_X8_isOutside l g x0 0 3 S) ⟨Nat.le_of_ble_eq_true rfl, Nat.le_of_ble_eq_true rfl⟩ rfl (Nat.le_of_ble_eq_true rfl) rfl dX8_noBoard_3 (fun r1 => ?_)
  exact dj_zretg C dX8_noBoard_6
noncomputable def fX8_noSlope (x0 : Int32) (S : dk_S) : Option (Int32 × dk_S) := (fX8_isOutside x0 0 99 S).bind (fun r1 => dk_gd (decide (r1.1 = 0 ∨ r1.1 = 1)) (some (r1.1, r1.2)))
set_option maxRecDepth 100000 in
set_option maxHeartbeats 4000000 in
theorem ct_X8_noSlope (l : Launch) (g : dk_G) (x0 : Int32) (S : dk_S)  : dk_M l g yX8_noSlope cX8_noSlope 1 (some .boolean) 1 22 [.int x0] S (fX8_noSlope x0 S) dk_qi := by
  refine dk_enter "DuckWalk" (by decide +kernel) rfl (Nat.le_of_ble_eq_true rfl) [(0, .int x0)] rfl ?_
  intro p e s m args below meth c C
  unfold fX8_noSlope
  refine dj_iload_n C 0 rfl dX8_noSlope_0 ?_
  refine dj_iconst C dX8_noSlope_1 dc_iconst_0 ?_
  refine dj_bipush C dX8_noSlope_2 dc_bipush_99 ?_
  refine dj_callSi (As := [.int x0, .int 0, .int 99]) C dw_X8_90 (ct_X8_isOutside l g x0 0 99 S) ⟨Nat.le_of_ble_eq_true rfl, Nat.le_of_ble_eq_true rfl⟩ rfl (Nat.le_of_ble_eq_true rfl) rfl dX8_noSlope_4 (fun r1 => ?_)
  exact dj_zretg C dX8_noSlope_7
noncomputable def fX8_noPace (x0 : Int32) (S : dk_S) : Option (Int32 × dk_S) := (fX8_isOutside x0 0 99 S).bind (fun r1 => dk_gd (decide (r1.1 = 0 ∨ r1.1 = 1)) (some (r1.1, r1.2)))
set_option maxRecDepth 100000 in
set_option maxHeartbeats 4000000 in
theorem ct_X8_noPace (l : Launch) (g : dk_G) (x0 : Int32) (S : dk_S)  : dk_M l g yX8_noPace cX8_noPace 1 (some .boolean) 1 22 [.int x0] S (fX8_noPace x0 S) dk_qi := by
  refine dk_enter "DuckWalk" (by decide +kernel) rfl (Nat.le_of_ble_eq_true rfl) [(0, .int x0)] rfl ?_
  intro p e s m args below meth c C
  unfold fX8_noPace
  refine dj_iload_n C 0 rfl dX8_noPace_0 ?_
  refine dj_iconst C dX8_noPace_1 dc_iconst_0 ?_
  refine dj_bipush C dX8_noPace_2 dc_bipush_99 ?_
  refine dj_callSi (As := [.int x0, .int 0, .int 99]) C dw_X8_90 (ct_X8_isOutside l g x0 0 99 S) ⟨Nat.le_of_ble_eq_true rfl, Nat.le_of_ble_eq_true rfl⟩ rfl (Nat.le_of_ble_eq_true rfl) rfl dX8_noPace_4 (fun r1 => ?_)
  exact dj_zretg C dX8_noPace_7
noncomputable def fX8_noPair (x0 : Int32) (x1 : Int32) (x2 : Int32) (S : dk_S) : Option (Int32 × dk_S) := (fX8_noWalker x0 S).bind (fun r1 => if r1.1 = 0 then (fX8_noBoard x1 r1.2).bind (fun r3 => if r3.1 = 0 then (fX8_noPace x2 r3.2).bind (fun r5 => if r5.1 = 0 then some (0, r5.2) else some (1, r5.2)) else some (1, r3.2)) else some (1, r1.2))
set_option maxRecDepth 100000 in
set_option maxHeartbeats 4000000 in
theorem ct_X8_noPair (l : Launch) (g : dk_G) (x0 : Int32) (x1 : Int32) (x2 : Int32) (S : dk_S)  : dk_M l g yX8_noPair cX8_noPair 3 (some .boolean) 2 42 [.int x0, .int x1, .int x2] S (fX8_noPair x0 x1 x2 S) dk_qi := by
  refine dk_enter "DuckWalk" (by decide +kernel) rfl (Nat.le_of_ble_eq_true rfl) [(0, .int x0), (1, .int x1), (2, .int x2)] rfl ?_
  intro p e s m args below meth c C
  unfold fX8_noPair
  refine dj_iload_n C 0 rfl dX8_noPair_0 ?_
  refine dj_callSi (As := [.int x0]) C dw_X8_94 (ct_X8_noWalker l g x0 S) ⟨Nat.le_of_ble_eq_true rfl, Nat.le_of_ble_eq_true rfl⟩ rfl (Nat.le_of_ble_eq_true rfl) rfl dX8_noPair_1 (fun r1 => ?_)
  refine dj_if_ne (tgt := 21) C dX8_noPair_4 (by decide) (fun c2 => ?_) (fun c2 => ?_)
  · refine dj_iconst C dX8_noPair_21 dc_iconst_1 ?_
    refine dj_goto (tgt := 26) C dX8_noPair_22 (by decide) ?_
    exact dj_zret C rfl dX8_noPair_26
  · refine dj_iload_n C 1 rfl dX8_noPair_7 ?_
    refine dj_callSi (As := [.int x1]) C dw_X8_98 (ct_X8_noBoard l g x1 r1.2) ⟨Nat.le_of_ble_eq_true rfl, Nat.le_of_ble_eq_true rfl⟩ rfl (Nat.le_of_ble_eq_true rfl) rfl dX8_noPair_8 (fun r3 => ?_)
    refine dj_if_ne (tgt := 21) C dX8_noPair_11 (by decide) (fun c4 => ?_) (fun c4 => ?_)
    · refine dj_iconst C dX8_noPair_21 dc_iconst_1 ?_
      refine dj_goto (tgt := 26) C dX8_noPair_22 (by decide) ?_
      exact dj_zret C rfl dX8_noPair_26
    · refine dj_iload_n C 2 rfl dX8_noPair_14 ?_
      refine dj_callSi (As := [.int x2]) C dw_X8_101 (ct_X8_noPace l g x2 r3.2) ⟨Nat.le_of_ble_eq_true rfl, Nat.le_of_ble_eq_true rfl⟩ rfl (Nat.le_of_ble_eq_true rfl) rfl dX8_noPair_15 (fun r5 => ?_)
      refine dj_if_eq (tgt := 25) C dX8_noPair_18 (by decide) (fun c6 => ?_) (fun c6 => ?_)
      · refine dj_iconst C dX8_noPair_25 dc_iconst_0 ?_
        exact dj_zret C rfl dX8_noPair_26
      · refine dj_iconst C dX8_noPair_21 dc_iconst_1 ?_
        refine dj_goto (tgt := 26) C dX8_noPair_22 (by decide) ?_
        exact dj_zret C rfl dX8_noPair_26
noncomputable def fX8_noGoing (x0 : Int32) (x1 : Int32) (x2 : Int32) (x3 : Int32) (S : dk_S) : Option (Int32 × dk_S) := (fX8_noPair x0 x1 x3 S).bind (fun r1 => if r1.1 = 0 then (fX8_noSlope x2 r1.2).bind (fun r3 => if r3.1 = 0 then some (0, r3.2) else some (1, r3.2)) else some (1, r1.2))
set_option maxRecDepth 100000 in
set_option maxHeartbeats 4000000 in
theorem ct_X8_noGoing (l : Launch) (g : dk_G) (x0 : Int32) (x1 : Int32) (x2 : Int32) (x3 : Int32) (S : dk_S)  : dk_M l g yX8_noGoing cX8_noGoing 4 (some .boolean) 3 64 [.int x0, .int x1, .int x2, .int x3] S (fX8_noGoing x0 x1 x2 x3 S) dk_qi := by
  refine dk_enter "DuckWalk" (by decide +kernel) rfl (Nat.le_of_ble_eq_true rfl) [(0, .int x0), (1, .int x1), (2, .int x2), (3, .int x3)] rfl ?_
  intro p e s m args below meth c C
  unfold fX8_noGoing
  refine dj_iload_n C 0 rfl dX8_noGoing_0 ?_
  refine dj_iload_n C 1 rfl dX8_noGoing_1 ?_
  refine dj_iload_n C 3 rfl dX8_noGoing_2 ?_
  refine dj_callSi (As := [.int x0, .int x1, .int x3]) C dw_X8_104 (ct_X8_noPair l g x0 x1 x3 S) ⟨Nat.le_of_ble_eq_true rfl, Nat.le_of_ble_eq_true rfl⟩ rfl (Nat.le_of_ble_eq_true rfl) rfl dX8_noGoing_3 (fun r1 => ?_)
  refine dj_if_ne (tgt := 16) C dX8_noGoing_6 (by decide) (fun c2 => ?_) (fun c2 => ?_)
  · refine dj_iconst C dX8_noGoing_16 dc_iconst_1 ?_
    refine dj_goto (tgt := 21) C dX8_noGoing_17 (by decide) ?_
    exact dj_zret C rfl dX8_noGoing_21
  · refine dj_iload_n C 2 rfl dX8_noGoing_9 ?_
    refine dj_callSi (As := [.int x2]) C dw_X8_107 (ct_X8_noSlope l g x2 r1.2) ⟨Nat.le_of_ble_eq_true rfl, Nat.le_of_ble_eq_true rfl⟩ rfl (Nat.le_of_ble_eq_true rfl) rfl dX8_noGoing_10 (fun r3 => ?_)
    refine dj_if_eq (tgt := 20) C dX8_noGoing_13 (by decide) (fun c4 => ?_) (fun c4 => ?_)
    · refine dj_iconst C dX8_noGoing_20 dc_iconst_0 ?_
      exact dj_zret C rfl dX8_noGoing_21
    · refine dj_iconst C dX8_noGoing_16 dc_iconst_1 ?_
      refine dj_goto (tgt := 21) C dX8_noGoing_17 (by decide) ?_
      exact dj_zret C rfl dX8_noGoing_21
noncomputable def fX8_found (x1 : Int32) (S : dk_S) : Option (Int32 × dk_S) := dk_lt (dk_si S 0 11 x1) (fun S1 => dk_gd (dk_in x1 6) (dk_gd (dk_in x1 6) (dk_lt (dk_si S1 30 x1.toNatClampNeg ((S1.1 30 x1.toNatClampNeg) + 1)) (fun S2 => some ((-3), S2)))))
set_option maxRecDepth 100000 in
set_option maxHeartbeats 4000000 in
theorem ct_X8_found (l : Launch) (g : dk_G) (x1 : Int32) (S : dk_S)  : dk_M l g yX8_found cX8_found 2 (some .int) 0 0 [.ref (g.1 0), .int x1] S (fX8_found x1 S) dk_qi := by
  refine dk_enter "DuckWalk" (by decide +kernel) rfl (Nat.le_of_ble_eq_true rfl) [(0, .ref (g.1 0)), (1, .int x1)] rfl ?_
  intro p e s m args below meth c C
  unfold fX8_found
  refine dj_aload_n C 0 rfl dX8_found_0 ?_
  refine dj_iload_n C 1 rfl dX8_found_1 ?_
  refine dj_puti C dl_X8_72 dp_8_11 rfl dz_0 dX8_found_2 (fun S1 => ?_)
  refine dj_aload_n C 0 rfl dX8_found_5 ?_
  refine dj_getr (r := 30) (k2 := 30) C dl_X8_68 rfl dz_0 rfl dX8_found_6 ?_
  refine dj_iload_n C 1 rfl dX8_found_9 ?_
  refine dj_dup2 C dX8_found_10 rfl rfl ?_
  refine dj_iald (n := 6) C dz_30 (by decide) dX8_found_11 ?_
  refine dj_iconst C dX8_found_12 dc_iconst_1 ?_
  refine dj_iadd C dX8_found_13 ?_
  refine dj_iast (n := 6) C dz_30 (by decide) dX8_found_14 (fun S2 => ?_)
  refine dj_bipush C dX8_found_15 dc_bipush_m3 ?_
  exact dj_iret C dX8_found_17
noncomputable def fX8_tell (x1 : Int32) (S : dk_S) : Option (Int32 × dk_S) := dk_lt (dk_si S 0 12 x1) (fun S1 => some (1, S1))
set_option maxRecDepth 100000 in
set_option maxHeartbeats 4000000 in
theorem ct_X8_tell (l : Launch) (g : dk_G) (x1 : Int32) (S : dk_S)  : dk_M l g yX8_tell cX8_tell 2 (some .int) 0 0 [.ref (g.1 0), .int x1] S (fX8_tell x1 S) dk_qi := by
  refine dk_enter "DuckWalk" (by decide +kernel) rfl (Nat.le_of_ble_eq_true rfl) [(0, .ref (g.1 0)), (1, .int x1)] rfl ?_
  intro p e s m args below meth c C
  unfold fX8_tell
  refine dj_aload_n C 0 rfl dX8_tell_0 ?_
  refine dj_iload_n C 1 rfl dX8_tell_1 ?_
  refine dj_puti C dl_X8_76 dp_8_12 rfl dz_0 dX8_tell_2 (fun S1 => ?_)
  refine dj_iconst C dX8_tell_5 dc_iconst_1 ?_
  exact dj_iret C dX8_tell_6
noncomputable def fX8_isReady (x1 : Int32) (x2 : Int32) (S : dk_S) : Option (Int32 × dk_S) := dk_gd (dk_in x1 4) (if (S.1 (51 + 2 * x1.toNatClampNeg) 2) = 0 then some (0, S) else dk_gd (dk_in x2 4) (if (S.1 (59 + 2 * x2.toNatClampNeg) 2) = 0 then some (0, S) else dk_gd (dk_in x1 4) ((fX1_take 18 (51 + 2 * x1.toNatClampNeg) S).bind (fun r6 => (fX3_clear 20 r6).bind (fun r7 => dk_gd (dk_in x2 4) (dk_lt (dk_si r7 20 1 (r7.1 (59 + 2 * x2.toNatClampNeg) 1)) (fun S9 => some (1, S9))))))))
set_option maxRecDepth 100000 in
set_option maxHeartbeats 4000000 in
theorem ct_X8_isReady (l : Launch) (g : dk_G) (x1 : Int32) (x2 : Int32) (S : dk_S)  : dk_M l g yX8_isReady cX8_isReady 3 (some .boolean) 2 43 [.ref (g.1 0), .int x1, .int x2] S (fX8_isReady x1 x2 S) dk_qi := by
  refine dk_enter "DuckWalk" (by decide +kernel) rfl (Nat.le_of_ble_eq_true rfl) [(0, .ref (g.1 0)), (1, .int x1), (2, .int x2)] rfl ?_
  intro p e s m args below meth c C
  unfold fX8_isReady
  refine dj_aload_n C 0 rfl dX8_isReady_0 ?_
  refine dj_getr (r := 3) (k2 := 3) C dl_X8_23 rfl dz_0 rfl dX8_isReady_1 ?_
  refine dj_iload_n C 1 rfl dX8_isReady_4 ?_
  refine dj_aald C dr_52 dz_3 dX8_isReady_5 (fun hi1 => ?_)
  refine dj_geti C dl_X8_110 rfl (dt_52 hi1) dX8_isReady_6 ?_
  refine dj_if_eq (tgt := 24) C dX8_isReady_9 (by decide) (fun c2 => ?_) (fun c2 => ?_)
  · refine dj_iconst C dX8_isReady_24 dc_iconst_0 ?_
    exact dj_zret C rfl dX8_isReady_25
  · refine dj_aload_n C 0 rfl dX8_isReady_12 ?_
    refine dj_getr (r := 4) (k2 := 4) C dl_X8_29 rfl dz_0 rfl dX8_isReady_13 ?_
    refine dj_iload_n C 2 rfl dX8_isReady_16 ?_
    refine dj_aald C dr_53 dz_4 dX8_isReady_17 (fun hi3 => ?_)
    refine dj_geti C dl_X8_114 rfl (dt_53 hi3) dX8_isReady_18 ?_
    refine dj_if_ne (tgt := 26) C dX8_isReady_21 (by decide) (fun c4 => ?_) (fun c4 => ?_)
    · refine dj_aload_n C 0 rfl dX8_isReady_26 ?_
      refine dj_getr (r := 16) (k2 := 16) C dl_X8_54 rfl dz_0 rfl dX8_isReady_27 ?_
      refine dj_getr (r := 1) (k2 := 17) C dl_X8_115 rfl dz_16 rfl dX8_isReady_30 ?_
      refine dj_getr (r := 1) (k2 := 18) C dl_X8_116 rfl dz_17 rfl dX8_isReady_33 ?_
      refine dj_aload_n C 0 rfl dX8_isReady_36 ?_
      refine dj_getr (r := 3) (k2 := 3) C dl_X8_23 rfl dz_0 rfl dX8_isReady_37 ?_
      refine dj_iload_n C 1 rfl dX8_isReady_40 ?_
      refine dj_aald C dr_52 dz_3 dX8_isReady_41 (fun hi5 => ?_)
      refine dj_callVv (t := 1) (As := [.ref (g.1 (51 + 2 * x1.toNatClampNeg))]) C dw_X8_120 ⟨_, _, rfl⟩ (by decide) dz_18 (ct_X1_take l g 18 (51 + 2 * x1.toNatClampNeg) S dz_18 (dt_52 hi5)) ⟨Nat.le_of_ble_eq_true rfl, Nat.le_of_ble_eq_true rfl⟩ rfl (Nat.le_of_ble_eq_true rfl) rfl dX8_isReady_42 (fun r6 => ?_)
      refine dj_aload_n C 0 rfl dX8_isReady_45 ?_
      refine dj_getr (r := 16) (k2 := 16) C dl_X8_54 rfl dz_0 rfl dX8_isReady_46 ?_
      refine dj_getr (r := 1) (k2 := 17) C dl_X8_115 rfl dz_16 rfl dX8_isReady_49 ?_
      refine dj_getr (r := 3) (k2 := 20) C dl_X8_124 rfl dz_17 rfl dX8_isReady_52 ?_
      refine dj_callVv (t := 3) (As := []) C dw_X8_128 ⟨_, _, rfl⟩ (by decide) dz_20 (ct_X3_clear l g 20 r6 dz_20) ⟨Nat.le_of_ble_eq_true rfl, Nat.le_of_ble_eq_true rfl⟩ rfl (Nat.le_of_ble_eq_true rfl) rfl dX8_isReady_55 (fun r7 => ?_)
      refine dj_aload_n C 0 rfl dX8_isReady_58 ?_
      refine dj_getr (r := 16) (k2 := 16) C dl_X8_54 rfl dz_0 rfl dX8_isReady_59 ?_
      refine dj_getr (r := 1) (k2 := 17) C dl_X8_115 rfl dz_16 rfl dX8_isReady_62 ?_
      refine dj_getr (r := 3) (k2 := 20) C dl_X8_124 rfl dz_17 rfl dX8_isReady_65 ?_
      refine dj_aload_n C 0 rfl dX8_isReady_68 ?_
      refine dj_getr (r := 4) (k2 := 4) C dl_X8_29 rfl dz_0 rfl dX8_isReady_69 ?_
      refine dj_iload_n C 2 rfl dX8_isReady_72 ?_
      refine dj_aald C dr_53 dz_4 dX8_isReady_73 (fun hi8 => ?_)
      refine dj_geti C dl_X8_131 rfl (dt_53 hi8) dX8_isReady_74 ?_
      refine dj_puti C dl_X8_131 dp_3_1 rfl dz_20 dX8_isReady_77 (fun S9 => ?_)
      refine dj_iconst C dX8_isReady_80 dc_iconst_1 ?_
      exact dj_zret C rfl dX8_isReady_81
    · refine dj_iconst C dX8_isReady_24 dc_iconst_0 ?_
      exact dj_zret C rfl dX8_isReady_25
noncomputable def fX8_divisor_L13  : Nat → Int32 → Int32 → Int32 → dk_S → Option (Int32 × dk_S)
  | 0, _, _, _, _ => none
  | n + 1, x2, x3, x4, S => if 64 ≤ x4 then some (x2, S) else if x3 = 0 then some (x2, S) else dk_gd (decide (¬ x3 = 0)) (dk_lt (x2 - x2 / x3 * x3) (fun y5 : Int32 => fX8_divisor_L13 n x3 y5 (x4 + 1) S))
noncomputable def fX8_divisor (x0 : Int32) (x1 : Int32) (S : dk_S) : Option (Int32 × dk_S) := (fJ9_abs_0f7a4 x0 S).bind (fun r1 => (fJ9_abs_0f7a4 x1 r1.2).bind (fun r2 => fX8_divisor_L13 dk_FU r1.1 r2.1 0 r2.2))
set_option maxRecDepth 100000 in
set_option maxHeartbeats 4000000 in
theorem jX8_divisor_L13 {p : Program} {l : Launch} {e : Env} {R : Room} {s : State} {m : MethodId} {args : Array Value} {below : List Frame} {meth : Method} {c : Code} {g : dk_G} (C : dk_C p l e R s m args below meth c g cX8_divisor "DuckWalk" 6 (some .int)) (hR : R = { frames := 1, cells := 0, slots := 0, locals := 20 })    : ∀ (n : Nat) (x2 : Int32) (x3 : Int32) (x4 : Int32) (S : dk_S), dk_J p l e R s m args below meth c g 6 dk_qi 13 [(2, .int x2), (3, .int x3), (4, .int x4)] [] S (fX8_divisor_L13 n x2 x3 x4 S) some := by
  subst hR
  intro n
  induction n with
  | zero =>
    intro x2 x3 x4 S
    exact dj_none
  | succ n ih =>
    intro x2 x3 x4 S
    rw [fX8_divisor_L13]
    refine dj_iload C 2 rfl dX8_divisor_13 ?_
    refine dj_bipush C dX8_divisor_15 dc_bipush_64 ?_
    refine dj_icmp_ge (tgt := 40) C dX8_divisor_17 (by decide) (fun c3 => ?_) (fun c3 => ?_)
    · refine dj_iload_n C 0 rfl dX8_divisor_40 ?_
      exact dj_iret C dX8_divisor_41
    · refine dj_iload_n C 1 rfl dX8_divisor_20 ?_
      refine dj_if_eq (tgt := 40) C dX8_divisor_21 (by decide) (fun c4 => ?_) (fun c4 => ?_)
      · refine dj_iload_n C 0 rfl dX8_divisor_40 ?_
        exact dj_iret C dX8_divisor_41
      · refine dj_iload_n C 0 rfl dX8_divisor_24 ?_
        refine dj_iload_n C 1 rfl dX8_divisor_25 ?_
        refine dj_iremg C dX8_divisor_26 ?_
        refine dj_lti (fun y5 => ?_)
        refine dj_istore (lv2 := [(3, .int x3), (4, .int x4), (5, .int y5)]) C [2, 3, 0] dX8_divisor_27 (by decide) rfl ?_
        refine dj_iload_n C 0 rfl dX8_divisor_29 ?_
        refine dj_istore_n (lv2 := [(2, .int x3), (4, .int x4), (5, .int y5)]) C [0, 2, 3] dX8_divisor_30 rfl (by decide) rfl ?_
        refine dj_iload C 2 rfl dX8_divisor_31 ?_
        refine dj_istore_n (lv2 := [(2, .int x3), (3, .int y5), (4, .int x4)]) C [1, 0, 2] dX8_divisor_33 rfl (by decide) rfl ?_
        refine dj_iinc (lv2 := [(2, .int x3), (3, .int y5), (4, .int (x4 + 1))]) C 2 rfl [1, 2, 0] dX8_divisor_34 dc_iconst_1 (by decide) rfl ?_
        refine dj_goto (tgt := 13) C dX8_divisor_37 (by decide) ?_
        exact ih x3 y5 (x4 + 1) S
set_option maxRecDepth 100000 in
set_option maxHeartbeats 4000000 in
theorem ct_X8_divisor (l : Launch) (g : dk_G) (x0 : Int32) (x1 : Int32) (S : dk_S)  : dk_M l g yX8_divisor cX8_divisor 6 (some .int) 1 20 [.int x0, .int x1] S (fX8_divisor x0 x1 S) dk_qi := by
  refine dk_enter "DuckWalk" (by decide +kernel) rfl (Nat.le_of_ble_eq_true rfl) [(0, .int x0), (1, .int x1)] rfl ?_
  intro p e s m args below meth c C
  unfold fX8_divisor
  refine dj_iload_n C 0 rfl dX8_divisor_0 ?_
  refine dj_callSi (As := [.int x0]) C dw_X8_143 (ct_J9_abs_0f7a4 l g x0 S) ⟨Nat.le_of_ble_eq_true rfl, Nat.le_of_ble_eq_true rfl⟩ rfl (Nat.le_of_ble_eq_true rfl) rfl dX8_divisor_1 (fun r1 => ?_)
  refine dj_istore_n (lv2 := [(1, .int x1), (2, .int r1.1)]) C [2, 0] dX8_divisor_4 rfl (by decide) rfl ?_
  refine dj_iload_n C 0 rfl dX8_divisor_5 ?_
  refine dj_callSi (As := [.int x1]) C dw_X8_143 (ct_J9_abs_0f7a4 l g x1 r1.2) ⟨Nat.le_of_ble_eq_true rfl, Nat.le_of_ble_eq_true rfl⟩ rfl (Nat.le_of_ble_eq_true rfl) rfl dX8_divisor_6 (fun r2 => ?_)
  refine dj_istore_n (lv2 := [(2, .int r1.1), (3, .int r2.1)]) C [2, 0] dX8_divisor_9 rfl (by decide) rfl ?_
  refine dj_iconst C dX8_divisor_10 dc_iconst_0 ?_
  refine dj_istore (lv2 := [(2, .int r1.1), (3, .int r2.1), (4, .int 0)]) C [1, 2, 0] dX8_divisor_11 (by decide) rfl ?_
  refine jX8_divisor_L13 C rfl dk_FU r1.1 r2.1 0 r2.2
noncomputable def fX8_tellFraction (x1 : Int32) (x2 : Int32) (S : dk_S) : Option (dk_S) := (fX8_divisor x1 x2 S).bind (fun r1 => (fJ9_max_7cf53 1 r1.1 r1.2).bind (fun r2 => dk_gd (decide (¬ r2.1 = 0)) (dk_lt (dk_sl r2.2 0 13 ((x1 / r2.1).toInt64)) (fun S3 => dk_gd (decide (¬ r2.1 = 0)) ((fJ9_max_7cf53 1 (x2 / r2.1) S3).bind (fun r4 => dk_lt (dk_sl r4.2 0 14 r4.1.toInt64) (fun S5 => some S5)))))))
set_option maxRecDepth 100000 in
set_option maxHeartbeats 4000000 in
theorem ct_X8_tellFraction (l : Launch) (g : dk_G) (x1 : Int32) (x2 : Int32) (S : dk_S)  : dk_M l g yX8_tellFraction cX8_tellFraction 4 none 2 45 [.ref (g.1 0), .int x1, .int x2] S (fX8_tellFraction x1 x2 S) dk_qv := by
  refine dk_enter "DuckWalk" (by decide +kernel) rfl (Nat.le_of_ble_eq_true rfl) [(0, .ref (g.1 0)), (1, .int x1), (2, .int x2)] rfl ?_
  intro p e s m args below meth c C
  unfold fX8_tellFraction
  refine dj_iconst C dX8_tellFraction_0 dc_iconst_1 ?_
  refine dj_iload_n C 1 rfl dX8_tellFraction_1 ?_
  refine dj_iload_n C 2 rfl dX8_tellFraction_2 ?_
  refine dj_callSi (As := [.int x1, .int x2]) C dw_X8_134 (ct_X8_divisor l g x1 x2 S) ⟨Nat.le_of_ble_eq_true rfl, Nat.le_of_ble_eq_true rfl⟩ rfl (Nat.le_of_ble_eq_true rfl) rfl dX8_tellFraction_3 (fun r1 => ?_)
  refine dj_callSi (As := [.int 1, .int r1.1]) C dw_X8_138 (ct_J9_max_7cf53 l g 1 r1.1 r1.2) ⟨Nat.le_of_ble_eq_true rfl, Nat.le_of_ble_eq_true rfl⟩ rfl (Nat.le_of_ble_eq_true rfl) rfl dX8_tellFraction_6 (fun r2 => ?_)
  refine dj_istore_n (lv2 := [(0, .ref (g.1 0)), (1, .int x1), (2, .int x2), (3, .int r2.1)]) C [1, 2, 3, 0] dX8_tellFraction_9 rfl (by decide) rfl ?_
  refine dj_aload_n C 0 rfl dX8_tellFraction_10 ?_
  refine dj_iload_n C 1 rfl dX8_tellFraction_11 ?_
  refine dj_iload_n C 3 rfl dX8_tellFraction_12 ?_
  refine dj_idivg C dX8_tellFraction_13 ?_
  refine dj_i2l C dX8_tellFraction_14 ?_
  refine dj_putl C dl_X8_79 dp_8_13 rfl dz_0 dX8_tellFraction_15 (fun S3 => ?_)
  refine dj_aload_n C 0 rfl dX8_tellFraction_18 ?_
  refine dj_iconst C dX8_tellFraction_19 dc_iconst_1 ?_
  refine dj_iload_n C 2 rfl dX8_tellFraction_20 ?_
  refine dj_iload_n C 3 rfl dX8_tellFraction_21 ?_
  refine dj_idivg C dX8_tellFraction_22 ?_
  refine dj_callSi (As := [.int 1, .int (x2 / r2.1)]) C dw_X8_138 (ct_J9_max_7cf53 l g 1 (x2 / r2.1) S3) ⟨Nat.le_of_ble_eq_true rfl, Nat.le_of_ble_eq_true rfl⟩ rfl (Nat.le_of_ble_eq_true rfl) rfl dX8_tellFraction_23 (fun r4 => ?_)
  refine dj_i2l C dX8_tellFraction_26 ?_
  refine dj_putl C dl_X8_83 dp_8_14 rfl dz_0 dX8_tellFraction_27 (fun S5 => ?_)
  exact dj_vret C dX8_tellFraction_30
noncomputable def fX8_row (x1 : Int32) (x2 : Int32) (S : dk_S) : Option (Int32 × dk_S) := (fX8_noRow x1 S).bind (fun r1 => if r1.1 = 0 then if x2 ≤ 60 then if 0 ≤ x2 then dk_gd (dk_in x1 6) ((fX5_renew (31 + 2 * x1.toNatClampNeg) x2 r1.2).bind (fun r6 => some (x2, r6))) else (fX8_found 5 r1.2).bind (fun r7 => some (r7.1, r7.2)) else some ((-1), r1.2) else some ((-1), r1.2))
set_option maxRecDepth 100000 in
set_option maxHeartbeats 4000000 in
theorem ct_X8_row (l : Launch) (g : dk_G) (x1 : Int32) (x2 : Int32) (S : dk_S)  : dk_M l g yX8_row cX8_row 3 (some .int) 2 44 [.ref (g.1 0), .int x1, .int x2] S (fX8_row x1 x2 S) dk_qi := by
  refine dk_enter "DuckWalk" (by decide +kernel) rfl (Nat.le_of_ble_eq_true rfl) [(0, .ref (g.1 0)), (1, .int x1), (2, .int x2)] rfl ?_
  intro p e s m args below meth c C
  unfold fX8_row
  refine dj_iload_n C 1 rfl dX8_row_0 ?_
  refine dj_callSi (As := [.int x1]) C dw_X8_147 (ct_X8_noRow l g x1 S) ⟨Nat.le_of_ble_eq_true rfl, Nat.le_of_ble_eq_true rfl⟩ rfl (Nat.le_of_ble_eq_true rfl) rfl dX8_row_1 (fun r1 => ?_)
  refine dj_if_ne (tgt := 13) C dX8_row_4 (by decide) (fun c2 => ?_) (fun c2 => ?_)
  · refine dj_iconst C dX8_row_13 dc_iconst_m1 ?_
    exact dj_iret C dX8_row_14
  · refine dj_iload_n C 2 rfl dX8_row_7 ?_
    refine dj_bipush C dX8_row_8 dc_bipush_60 ?_
    refine dj_icmp_le (tgt := 15) C dX8_row_10 (by decide) (fun c3 => ?_) (fun c3 => ?_)
    · refine dj_iload_n C 2 rfl dX8_row_15 ?_
      refine dj_if_ge (tgt := 25) C dX8_row_16 (by decide) (fun c4 => ?_) (fun c4 => ?_)
      · refine dj_aload_n C 0 rfl dX8_row_25 ?_
        refine dj_getr (r := 1) (k2 := 1) C dl_X8_11 rfl dz_0 rfl dX8_row_26 ?_
        refine dj_iload_n C 1 rfl dX8_row_29 ?_
        refine dj_aald C dr_50 dz_1 dX8_row_30 (fun hi5 => ?_)
        refine dj_iload_n C 2 rfl dX8_row_31 ?_
        refine dj_callVv (t := 5) (As := [.int x2]) C dw_X8_153 ⟨_, _, rfl⟩ (by decide) (dt_50 hi5) (ct_X5_renew l g (31 + 2 * x1.toNatClampNeg) x2 r1.2 (dt_50 hi5)) ⟨Nat.le_of_ble_eq_true rfl, Nat.le_of_ble_eq_true rfl⟩ rfl (Nat.le_of_ble_eq_true rfl) rfl dX8_row_32 (fun r6 => ?_)
        refine dj_iload_n C 2 rfl dX8_row_35 ?_
        exact dj_iret C dX8_row_36
      · refine dj_aload_n C 0 rfl dX8_row_19 ?_
        refine dj_iconst C dX8_row_20 dc_iconst_5 ?_
        refine dj_callVi (t := 8) (As := [.int 5]) C dw_X8_150 ⟨_, _, rfl⟩ (by decide) dz_0 (ct_X8_found l g 5 r1.2) ⟨Nat.le_of_ble_eq_true rfl, Nat.le_of_ble_eq_true rfl⟩ rfl (Nat.le_of_ble_eq_true rfl) rfl dX8_row_21 (fun r7 => ?_)
        exact dj_iret C dX8_row_24
    · refine dj_iconst C dX8_row_13 dc_iconst_m1 ?_
      exact dj_iret C dX8_row_14
noncomputable def fX8_lay (x1 : Int32) (x2 : Int32) (x3 : Int32) (S : dk_S) : Option (Int32 × dk_S) := (fX8_noRow x1 S).bind (fun r1 => if r1.1 = 0 then dk_gd (dk_in x1 6) ((fX5_isMissing (31 + 2 * x1.toNatClampNeg) r1.2).bind (fun r4 => if r4.1 = 0 then (fX5_has (31 + 2 * x1.toNatClampNeg) x2 r4.2).bind (fun r6 => if r6.1 = 0 then (fX8_found 2 r6.2).bind (fun r11 => some (r11.1, r11.2)) else dk_gd (dk_in x2 60) (dk_lt (r6.2.1 ((31 + 2 * x1.toNatClampNeg) + 1) x2.toNatClampNeg) (fun y8 : Int32 => dk_gd (dk_in x2 60) (dk_lt (dk_si r6.2 ((31 + 2 * x1.toNatClampNeg) + 1) x2.toNatClampNeg x3) (fun S9 => (fX8_tell y8 S9).bind (fun r10 => some (r10.1, r10.2))))))) else (fX8_found 1 r4.2).bind (fun r12 => some (r12.1, r12.2)))) else some ((-1), r1.2))
set_option maxRecDepth 100000 in
set_option maxHeartbeats 4000000 in
theorem ct_X8_lay (l : Launch) (g : dk_G) (x1 : Int32) (x2 : Int32) (x3 : Int32) (S : dk_S)  : dk_M l g yX8_lay cX8_lay 6 (some .int) 2 42 [.ref (g.1 0), .int x1, .int x2, .int x3] S (fX8_lay x1 x2 x3 S) dk_qi := by
  refine dk_enter "DuckWalk" (by decide +kernel) rfl (Nat.le_of_ble_eq_true rfl) [(0, .ref (g.1 0)), (1, .int x1), (2, .int x2), (3, .int x3)] rfl ?_
  intro p e s m args below meth c C
  unfold fX8_lay
  refine dj_iload_n C 1 rfl dX8_lay_0 ?_
  refine dj_callSi (As := [.int x1]) C dw_X8_147 (ct_X8_noRow l g x1 S) ⟨Nat.le_of_ble_eq_true rfl, Nat.le_of_ble_eq_true rfl⟩ rfl (Nat.le_of_ble_eq_true rfl) rfl dX8_lay_1 (fun r1 => ?_)
  refine dj_if_eq (tgt := 9) C dX8_lay_4 (by decide) (fun c2 => ?_) (fun c2 => ?_)
  · refine dj_aload_n C 0 rfl dX8_lay_9 ?_
    refine dj_getr (r := 1) (k2 := 1) C dl_X8_11 rfl dz_0 rfl dX8_lay_10 ?_
    refine dj_iload_n C 1 rfl dX8_lay_13 ?_
    refine dj_aald C dr_50 dz_1 dX8_lay_14 (fun hi3 => ?_)
    refine dj_astore (lv2 := [(0, .ref (g.1 0)), (2, .int x2), (3, .int x3), (4, .ref (g.1 (31 + 2 * x1.toNatClampNeg)))]) C [1, 3, 4, 0] dX8_lay_15 (by decide) rfl ?_
    refine dj_aload C 3 rfl dX8_lay_17 ?_
    refine dj_callVi (t := 5) (As := []) C dw_X8_157 ⟨_, _, rfl⟩ (by decide) (dt_50 hi3) (ct_X5_isMissing l g (31 + 2 * x1.toNatClampNeg) r1.2 (dt_50 hi3)) ⟨Nat.le_of_ble_eq_true rfl, Nat.le_of_ble_eq_true rfl⟩ rfl (Nat.le_of_ble_eq_true rfl) rfl dX8_lay_19 (fun r4 => ?_)
    refine dj_if_eq (tgt := 31) C dX8_lay_22 (by decide) (fun c5 => ?_) (fun c5 => ?_)
    · refine dj_aload C 3 rfl dX8_lay_31 ?_
      refine dj_iload_n C 1 rfl dX8_lay_33 ?_
      refine dj_callVi (t := 5) (As := [.int x2]) C dw_X8_161 ⟨_, _, rfl⟩ (by decide) (dt_50 hi3) (ct_X5_has l g (31 + 2 * x1.toNatClampNeg) x2 r4.2 (dt_50 hi3)) ⟨Nat.le_of_ble_eq_true rfl, Nat.le_of_ble_eq_true rfl⟩ rfl (Nat.le_of_ble_eq_true rfl) rfl dX8_lay_34 (fun r6 => ?_)
      refine dj_if_ne (tgt := 46) C dX8_lay_37 (by decide) (fun c7 => ?_) (fun c7 => ?_)
      · refine dj_aload C 3 rfl dX8_lay_46 ?_
        refine dj_getr (r := 1) (k2 := (31 + 2 * x1.toNatClampNeg) + 1) C dl_X8_164 rfl (dt_50 hi3) rfl dX8_lay_48 ?_
        refine dj_iload_n C 1 rfl dX8_lay_51 ?_
        refine dj_iald (n := 60) C (dt_5_1 (dt_50 hi3)) (by decide) dX8_lay_52 ?_
        refine dj_lti (fun y8 => ?_)
        refine dj_istore (lv2 := [(0, .ref (g.1 0)), (2, .int x2), (3, .int x3), (4, .ref (g.1 (31 + 2 * x1.toNatClampNeg))), (5, .int y8)]) C [1, 2, 3, 4, 0] dX8_lay_53 (by decide) rfl ?_
        refine dj_aload C 3 rfl dX8_lay_55 ?_
        refine dj_getr (r := 1) (k2 := (31 + 2 * x1.toNatClampNeg) + 1) C dl_X8_164 rfl (dt_50 hi3) rfl dX8_lay_57 ?_
        refine dj_iload_n C 1 rfl dX8_lay_60 ?_
        refine dj_iload_n C 2 rfl dX8_lay_61 ?_
        refine dj_iast (n := 60) C (dt_5_1 (dt_50 hi3)) (by decide) dX8_lay_62 (fun S9 => ?_)
        refine dj_aload_n C 0 rfl dX8_lay_63 ?_
        refine dj_iload C 4 rfl dX8_lay_64 ?_
        refine dj_callVi (t := 8) (As := [.int y8]) C dw_X8_167 ⟨_, _, rfl⟩ (by decide) dz_0 (ct_X8_tell l g y8 S9) ⟨Nat.le_of_ble_eq_true rfl, Nat.le_of_ble_eq_true rfl⟩ rfl (Nat.le_of_ble_eq_true rfl) rfl dX8_lay_66 (fun r10 => ?_)
        exact dj_iret C dX8_lay_69
      · refine dj_aload_n C 0 rfl dX8_lay_40 ?_
        refine dj_iconst C dX8_lay_41 dc_iconst_2 ?_
        refine dj_callVi (t := 8) (As := [.int 2]) C dw_X8_150 ⟨_, _, rfl⟩ (by decide) dz_0 (ct_X8_found l g 2 r6.2) ⟨Nat.le_of_ble_eq_true rfl, Nat.le_of_ble_eq_true rfl⟩ rfl (Nat.le_of_ble_eq_true rfl) rfl dX8_lay_42 (fun r11 => ?_)
        exact dj_iret C dX8_lay_45
    · refine dj_aload_n C 0 rfl dX8_lay_25 ?_
      refine dj_iconst C dX8_lay_26 dc_iconst_1 ?_
      refine dj_callVi (t := 8) (As := [.int 1]) C dw_X8_150 ⟨_, _, rfl⟩ (by decide) dz_0 (ct_X8_found l g 1 r4.2) ⟨Nat.le_of_ble_eq_true rfl, Nat.le_of_ble_eq_true rfl⟩ rfl (Nat.le_of_ble_eq_true rfl) rfl dX8_lay_27 (fun r12 => ?_)
      exact dj_iret C dX8_lay_30
  · refine dj_iconst C dX8_lay_7 dc_iconst_m1 ?_
    exact dj_iret C dX8_lay_8
noncomputable def fX8_at (x1 : Int32) (x2 : Int32) (S : dk_S) : Option (Int32 × dk_S) := (fX8_noRow x1 S).bind (fun r1 => if r1.1 = 0 then dk_gd (dk_in x1 6) ((fX5_isMissing (31 + 2 * x1.toNatClampNeg) r1.2).bind (fun r4 => if r4.1 = 0 then (fX5_has (31 + 2 * x1.toNatClampNeg) x2 r4.2).bind (fun r6 => if r6.1 = 0 then (fX8_found 2 r6.2).bind (fun r9 => some (r9.1, r9.2)) else dk_gd (dk_in x2 60) ((fX8_tell (r6.2.1 ((31 + 2 * x1.toNatClampNeg) + 1) x2.toNatClampNeg) r6.2).bind (fun r8 => some (r8.1, r8.2)))) else (fX8_found 1 r4.2).bind (fun r10 => some (r10.1, r10.2)))) else some ((-1), r1.2))
set_option maxRecDepth 100000 in
set_option maxHeartbeats 4000000 in
theorem ct_X8_at (l : Launch) (g : dk_G) (x1 : Int32) (x2 : Int32) (S : dk_S)  : dk_M l g yX8_at cX8_at 4 (some .int) 2 42 [.ref (g.1 0), .int x1, .int x2] S (fX8_at x1 x2 S) dk_qi := by
  refine dk_enter "DuckWalk" (by decide +kernel) rfl (Nat.le_of_ble_eq_true rfl) [(0, .ref (g.1 0)), (1, .int x1), (2, .int x2)] rfl ?_
  intro p e s m args below meth c C
  unfold fX8_at
  refine dj_iload_n C 1 rfl dX8_at_0 ?_
  refine dj_callSi (As := [.int x1]) C dw_X8_147 (ct_X8_noRow l g x1 S) ⟨Nat.le_of_ble_eq_true rfl, Nat.le_of_ble_eq_true rfl⟩ rfl (Nat.le_of_ble_eq_true rfl) rfl dX8_at_1 (fun r1 => ?_)
  refine dj_if_eq (tgt := 9) C dX8_at_4 (by decide) (fun c2 => ?_) (fun c2 => ?_)
  · refine dj_aload_n C 0 rfl dX8_at_9 ?_
    refine dj_getr (r := 1) (k2 := 1) C dl_X8_11 rfl dz_0 rfl dX8_at_10 ?_
    refine dj_iload_n C 1 rfl dX8_at_13 ?_
    refine dj_aald C dr_50 dz_1 dX8_at_14 (fun hi3 => ?_)
    refine dj_astore_n (lv2 := [(0, .ref (g.1 0)), (2, .int x2), (3, .ref (g.1 (31 + 2 * x1.toNatClampNeg)))]) C [1, 3, 0] dX8_at_15 rfl (by decide) rfl ?_
    refine dj_aload_n C 2 rfl dX8_at_16 ?_
    refine dj_callVi (t := 5) (As := []) C dw_X8_157 ⟨_, _, rfl⟩ (by decide) (dt_50 hi3) (ct_X5_isMissing l g (31 + 2 * x1.toNatClampNeg) r1.2 (dt_50 hi3)) ⟨Nat.le_of_ble_eq_true rfl, Nat.le_of_ble_eq_true rfl⟩ rfl (Nat.le_of_ble_eq_true rfl) rfl dX8_at_17 (fun r4 => ?_)
    refine dj_if_eq (tgt := 29) C dX8_at_20 (by decide) (fun c5 => ?_) (fun c5 => ?_)
    · refine dj_aload_n C 2 rfl dX8_at_29 ?_
      refine dj_iload_n C 1 rfl dX8_at_30 ?_
      refine dj_callVi (t := 5) (As := [.int x2]) C dw_X8_161 ⟨_, _, rfl⟩ (by decide) (dt_50 hi3) (ct_X5_has l g (31 + 2 * x1.toNatClampNeg) x2 r4.2 (dt_50 hi3)) ⟨Nat.le_of_ble_eq_true rfl, Nat.le_of_ble_eq_true rfl⟩ rfl (Nat.le_of_ble_eq_true rfl) rfl dX8_at_31 (fun r6 => ?_)
      refine dj_if_ne (tgt := 43) C dX8_at_34 (by decide) (fun c7 => ?_) (fun c7 => ?_)
      · refine dj_aload_n C 0 rfl dX8_at_43 ?_
        refine dj_aload_n C 2 rfl dX8_at_44 ?_
        refine dj_getr (r := 1) (k2 := (31 + 2 * x1.toNatClampNeg) + 1) C dl_X8_164 rfl (dt_50 hi3) rfl dX8_at_45 ?_
        refine dj_iload_n C 1 rfl dX8_at_48 ?_
        refine dj_iald (n := 60) C (dt_5_1 (dt_50 hi3)) (by decide) dX8_at_49 ?_
        refine dj_callVi (t := 8) (As := [.int (r6.2.1 ((31 + 2 * x1.toNatClampNeg) + 1) x2.toNatClampNeg)]) C dw_X8_167 ⟨_, _, rfl⟩ (by decide) dz_0 (ct_X8_tell l g (r6.2.1 ((31 + 2 * x1.toNatClampNeg) + 1) x2.toNatClampNeg) r6.2) ⟨Nat.le_of_ble_eq_true rfl, Nat.le_of_ble_eq_true rfl⟩ rfl (Nat.le_of_ble_eq_true rfl) rfl dX8_at_50 (fun r8 => ?_)
        exact dj_iret C dX8_at_53
      · refine dj_aload_n C 0 rfl dX8_at_37 ?_
        refine dj_iconst C dX8_at_38 dc_iconst_2 ?_
        refine dj_callVi (t := 8) (As := [.int 2]) C dw_X8_150 ⟨_, _, rfl⟩ (by decide) dz_0 (ct_X8_found l g 2 r6.2) ⟨Nat.le_of_ble_eq_true rfl, Nat.le_of_ble_eq_true rfl⟩ rfl (Nat.le_of_ble_eq_true rfl) rfl dX8_at_39 (fun r9 => ?_)
        exact dj_iret C dX8_at_42
    · refine dj_aload_n C 0 rfl dX8_at_23 ?_
      refine dj_iconst C dX8_at_24 dc_iconst_1 ?_
      refine dj_callVi (t := 8) (As := [.int 1]) C dw_X8_150 ⟨_, _, rfl⟩ (by decide) dz_0 (ct_X8_found l g 1 r4.2) ⟨Nat.le_of_ble_eq_true rfl, Nat.le_of_ble_eq_true rfl⟩ rfl (Nat.le_of_ble_eq_true rfl) rfl dX8_at_25 (fun r10 => ?_)
      exact dj_iret C dX8_at_28
  · refine dj_iconst C dX8_at_7 dc_iconst_m1 ?_
    exact dj_iret C dX8_at_8
noncomputable def fX8_tear (x1 : Int32) (S : dk_S) : Option (Int32 × dk_S) := (fX8_noRow x1 S).bind (fun r1 => if r1.1 = 0 then dk_gd (dk_in x1 6) ((fX5_isMissing (31 + 2 * x1.toNatClampNeg) r1.2).bind (fun r4 => if r4.1 = 0 then dk_gd (dk_in x1 6) (dk_lt (dk_si r4.2 (31 + 2 * x1.toNatClampNeg) 1 (-1)) (fun S7 => some (1, S7))) else (fX8_found 1 r4.2).bind (fun r8 => some (r8.1, r8.2)))) else some ((-1), r1.2))
set_option maxRecDepth 100000 in
set_option maxHeartbeats 4000000 in
theorem ct_X8_tear (l : Launch) (g : dk_G) (x1 : Int32) (S : dk_S)  : dk_M l g yX8_tear cX8_tear 2 (some .int) 2 42 [.ref (g.1 0), .int x1] S (fX8_tear x1 S) dk_qi := by
  refine dk_enter "DuckWalk" (by decide +kernel) rfl (Nat.le_of_ble_eq_true rfl) [(0, .ref (g.1 0)), (1, .int x1)] rfl ?_
  intro p e s m args below meth c C
  unfold fX8_tear
  refine dj_iload_n C 1 rfl dX8_tear_0 ?_
  refine dj_callSi (As := [.int x1]) C dw_X8_147 (ct_X8_noRow l g x1 S) ⟨Nat.le_of_ble_eq_true rfl, Nat.le_of_ble_eq_true rfl⟩ rfl (Nat.le_of_ble_eq_true rfl) rfl dX8_tear_1 (fun r1 => ?_)
  refine dj_if_eq (tgt := 9) C dX8_tear_4 (by decide) (fun c2 => ?_) (fun c2 => ?_)
  · refine dj_aload_n C 0 rfl dX8_tear_9 ?_
    refine dj_getr (r := 1) (k2 := 1) C dl_X8_11 rfl dz_0 rfl dX8_tear_10 ?_
    refine dj_iload_n C 1 rfl dX8_tear_13 ?_
    refine dj_aald C dr_50 dz_1 dX8_tear_14 (fun hi3 => ?_)
    refine dj_callVi (t := 5) (As := []) C dw_X8_157 ⟨_, _, rfl⟩ (by decide) (dt_50 hi3) (ct_X5_isMissing l g (31 + 2 * x1.toNatClampNeg) r1.2 (dt_50 hi3)) ⟨Nat.le_of_ble_eq_true rfl, Nat.le_of_ble_eq_true rfl⟩ rfl (Nat.le_of_ble_eq_true rfl) rfl dX8_tear_15 (fun r4 => ?_)
    refine dj_if_eq (tgt := 27) C dX8_tear_18 (by decide) (fun c5 => ?_) (fun c5 => ?_)
    · refine dj_aload_n C 0 rfl dX8_tear_27 ?_
      refine dj_getr (r := 1) (k2 := 1) C dl_X8_11 rfl dz_0 rfl dX8_tear_28 ?_
      refine dj_iload_n C 1 rfl dX8_tear_31 ?_
      refine dj_aald C dr_50 dz_1 dX8_tear_32 (fun hi6 => ?_)
      refine dj_iconst C dX8_tear_33 dc_iconst_m1 ?_
      refine dj_puti C dl_X8_170 dp_5_1 rfl (dt_50 hi6) dX8_tear_34 (fun S7 => ?_)
      refine dj_iconst C dX8_tear_37 dc_iconst_1 ?_
      exact dj_iret C dX8_tear_38
    · refine dj_aload_n C 0 rfl dX8_tear_21 ?_
      refine dj_iconst C dX8_tear_22 dc_iconst_1 ?_
      refine dj_callVi (t := 8) (As := [.int 1]) C dw_X8_150 ⟨_, _, rfl⟩ (by decide) dz_0 (ct_X8_found l g 1 r4.2) ⟨Nat.le_of_ble_eq_true rfl, Nat.le_of_ble_eq_true rfl⟩ rfl (Nat.le_of_ble_eq_true rfl) rfl dX8_tear_23 (fun r8 => ?_)
      exact dj_iret C dX8_tear_26
  · refine dj_iconst C dX8_tear_7 dc_iconst_m1 ?_
    exact dj_iret C dX8_tear_8
noncomputable def fX8_copy (x1 : Int32) (x2 : Int32) (x3 : Int32) (x4 : Int32) (x5 : Int32) (S : dk_S) : Option (Int32 × dk_S) := (fX8_noRow x1 S).bind (fun r1 => if r1.1 = 0 then (fX8_noRow x3 r1.2).bind (fun r3 => if r3.1 = 0 then if 0 ≤ x5 then dk_gd (dk_in x1 6) ((fX5_isMissing (31 + 2 * x1.toNatClampNeg) r3.2).bind (fun r7 => if r7.1 = 0 then dk_gd (dk_in x3 6) ((fX5_isMissing (31 + 2 * x3.toNatClampNeg) r7.2).bind (fun r11 => if r11.1 = 0 then dk_gd (dk_in x1 6) ((fX5_hasSpan (31 + 2 * x1.toNatClampNeg) x2 x5 r11.2).bind (fun r14 => if r14.1 = 0 then (fX8_found 2 r14.2).bind (fun r16 => some (r16.1, r16.2)) else dk_gd (dk_in x3 6) ((fX5_hasSpan (31 + 2 * x3.toNatClampNeg) x4 x5 r14.2).bind (fun r18 => if r18.1 = 0 then (fX8_found 2 r18.2).bind (fun r23 => some (r23.1, r23.2)) else dk_gd (dk_in x1 6) (dk_gd (dk_in x3 6) (dk_gd (dk_cpok x2 x4 x5 60 60) (dk_lt (dk_sr r18.2 ((31 + 2 * x3.toNatClampNeg) + 1) (va_cpy (r18.2.1 ((31 + 2 * x1.toNatClampNeg) + 1)) (r18.2.1 ((31 + 2 * x3.toNatClampNeg) + 1)) x2.toNatClampNeg x4.toNatClampNeg x5.toNatClampNeg)) (fun S22 => some (1, S22))))))))) else (fX8_found 1 r11.2).bind (fun r24 => some (r24.1, r24.2)))) else (fX8_found 1 r7.2).bind (fun r9 => some (r9.1, r9.2)))) else (fX8_found 5 r3.2).bind (fun r25 => some (r25.1, r25.2)) else some ((-1), r3.2)) else some ((-1), r1.2))
set_option maxRecDepth 100000 in
set_option maxHeartbeats 4000000 in
theorem ct_X8_copy (l : Launch) (g : dk_G) (x1 : Int32) (x2 : Int32) (x3 : Int32) (x4 : Int32) (x5 : Int32) (S : dk_S)  : dk_M l g yX8_copy cX8_copy 6 (some .int) 2 42 [.ref (g.1 0), .int x1, .int x2, .int x3, .int x4, .int x5] S (fX8_copy x1 x2 x3 x4 x5 S) dk_qi := by
  refine dk_enter "DuckWalk" (by decide +kernel) rfl (Nat.le_of_ble_eq_true rfl) [(0, .ref (g.1 0)), (1, .int x1), (2, .int x2), (3, .int x3), (4, .int x4), (5, .int x5)] rfl ?_
  intro p e s m args below meth c C
  unfold fX8_copy
  refine dj_iload_n C 1 rfl dX8_copy_0 ?_
  refine dj_callSi (As := [.int x1]) C dw_X8_147 (ct_X8_noRow l g x1 S) ⟨Nat.le_of_ble_eq_true rfl, Nat.le_of_ble_eq_true rfl⟩ rfl (Nat.le_of_ble_eq_true rfl) rfl dX8_copy_1 (fun r1 => ?_)
  refine dj_if_ne (tgt := 14) C dX8_copy_4 (by decide) (fun c2 => ?_) (fun c2 => ?_)
  · refine dj_iconst C dX8_copy_14 dc_iconst_m1 ?_
    exact dj_iret C dX8_copy_15
  · refine dj_iload_n C 3 rfl dX8_copy_7 ?_
    refine dj_callSi (As := [.int x3]) C dw_X8_147 (ct_X8_noRow l g x3 r1.2) ⟨Nat.le_of_ble_eq_true rfl, Nat.le_of_ble_eq_true rfl⟩ rfl (Nat.le_of_ble_eq_true rfl) rfl dX8_copy_8 (fun r3 => ?_)
    refine dj_if_eq (tgt := 16) C dX8_copy_11 (by decide) (fun c4 => ?_) (fun c4 => ?_)
    · refine dj_iload C 5 rfl dX8_copy_16 ?_
      refine dj_if_ge (tgt := 27) C dX8_copy_18 (by decide) (fun c5 => ?_) (fun c5 => ?_)
      · refine dj_aload_n C 0 rfl dX8_copy_27 ?_
        refine dj_getr (r := 1) (k2 := 1) C dl_X8_11 rfl dz_0 rfl dX8_copy_28 ?_
        refine dj_iload_n C 1 rfl dX8_copy_31 ?_
        refine dj_aald C dr_50 dz_1 dX8_copy_32 (fun hi6 => ?_)
        refine dj_callVi (t := 5) (As := []) C dw_X8_157 ⟨_, _, rfl⟩ (by decide) (dt_50 hi6) (ct_X5_isMissing l g (31 + 2 * x1.toNatClampNeg) r3.2 (dt_50 hi6)) ⟨Nat.le_of_ble_eq_true rfl, Nat.le_of_ble_eq_true rfl⟩ rfl (Nat.le_of_ble_eq_true rfl) rfl dX8_copy_33 (fun r7 => ?_)
        refine dj_if_ne (tgt := 51) C dX8_copy_36 (by decide) (fun c8 => ?_) (fun c8 => ?_)
        · refine dj_aload_n C 0 rfl dX8_copy_51 ?_
          refine dj_iconst C dX8_copy_52 dc_iconst_1 ?_
          refine dj_callVi (t := 8) (As := [.int 1]) C dw_X8_150 ⟨_, _, rfl⟩ (by decide) dz_0 (ct_X8_found l g 1 r7.2) ⟨Nat.le_of_ble_eq_true rfl, Nat.le_of_ble_eq_true rfl⟩ rfl (Nat.le_of_ble_eq_true rfl) rfl dX8_copy_53 (fun r9 => ?_)
          exact dj_iret C dX8_copy_56
        · refine dj_aload_n C 0 rfl dX8_copy_39 ?_
          refine dj_getr (r := 1) (k2 := 1) C dl_X8_11 rfl dz_0 rfl dX8_copy_40 ?_
          refine dj_iload_n C 3 rfl dX8_copy_43 ?_
          refine dj_aald C dr_50 dz_1 dX8_copy_44 (fun hi10 => ?_)
          refine dj_callVi (t := 5) (As := []) C dw_X8_157 ⟨_, _, rfl⟩ (by decide) (dt_50 hi10) (ct_X5_isMissing l g (31 + 2 * x3.toNatClampNeg) r7.2 (dt_50 hi10)) ⟨Nat.le_of_ble_eq_true rfl, Nat.le_of_ble_eq_true rfl⟩ rfl (Nat.le_of_ble_eq_true rfl) rfl dX8_copy_45 (fun r11 => ?_)
          refine dj_if_eq (tgt := 57) C dX8_copy_48 (by decide) (fun c12 => ?_) (fun c12 => ?_)
          · refine dj_aload_n C 0 rfl dX8_copy_57 ?_
            refine dj_getr (r := 1) (k2 := 1) C dl_X8_11 rfl dz_0 rfl dX8_copy_58 ?_
            refine dj_iload_n C 1 rfl dX8_copy_61 ?_
            refine dj_aald C dr_50 dz_1 dX8_copy_62 (fun hi13 => ?_)
            refine dj_iload_n C 2 rfl dX8_copy_63 ?_
            refine dj_iload C 5 rfl dX8_copy_64 ?_
            refine dj_callVi (t := 5) (As := [.int x2, .int x5]) C dw_X8_173 ⟨_, _, rfl⟩ (by decide) (dt_50 hi13) (ct_X5_hasSpan l g (31 + 2 * x1.toNatClampNeg) x2 x5 r11.2 (dt_50 hi13)) ⟨Nat.le_of_ble_eq_true rfl, Nat.le_of_ble_eq_true rfl⟩ rfl (Nat.le_of_ble_eq_true rfl) rfl dX8_copy_66 (fun r14 => ?_)
            refine dj_if_eq (tgt := 88) C dX8_copy_69 (by decide) (fun c15 => ?_) (fun c15 => ?_)
            · refine dj_aload_n C 0 rfl dX8_copy_88 ?_
              refine dj_iconst C dX8_copy_89 dc_iconst_2 ?_
              refine dj_callVi (t := 8) (As := [.int 2]) C dw_X8_150 ⟨_, _, rfl⟩ (by decide) dz_0 (ct_X8_found l g 2 r14.2) ⟨Nat.le_of_ble_eq_true rfl, Nat.le_of_ble_eq_true rfl⟩ rfl (Nat.le_of_ble_eq_true rfl) rfl dX8_copy_90 (fun r16 => ?_)
              exact dj_iret C dX8_copy_93
            · refine dj_aload_n C 0 rfl dX8_copy_72 ?_
              refine dj_getr (r := 1) (k2 := 1) C dl_X8_11 rfl dz_0 rfl dX8_copy_73 ?_
              refine dj_iload_n C 3 rfl dX8_copy_76 ?_
              refine dj_aald C dr_50 dz_1 dX8_copy_77 (fun hi17 => ?_)
              refine dj_iload C 4 rfl dX8_copy_78 ?_
              refine dj_iload C 5 rfl dX8_copy_80 ?_
              refine dj_callVi (t := 5) (As := [.int x4, .int x5]) C dw_X8_173 ⟨_, _, rfl⟩ (by decide) (dt_50 hi17) (ct_X5_hasSpan l g (31 + 2 * x3.toNatClampNeg) x4 x5 r14.2 (dt_50 hi17)) ⟨Nat.le_of_ble_eq_true rfl, Nat.le_of_ble_eq_true rfl⟩ rfl (Nat.le_of_ble_eq_true rfl) rfl dX8_copy_82 (fun r18 => ?_)
              refine dj_if_ne (tgt := 94) C dX8_copy_85 (by decide) (fun c19 => ?_) (fun c19 => ?_)
              · refine dj_aload_n C 0 rfl dX8_copy_94 ?_
                refine dj_getr (r := 1) (k2 := 1) C dl_X8_11 rfl dz_0 rfl dX8_copy_95 ?_
                refine dj_iload_n C 1 rfl dX8_copy_98 ?_
                refine dj_aald C dr_50 dz_1 dX8_copy_99 (fun hi20 => ?_)
                refine dj_getr (r := 1) (k2 := (31 + 2 * x1.toNatClampNeg) + 1) C dl_X8_164 rfl (dt_50 hi20) rfl dX8_copy_100 ?_
                refine dj_iload_n C 2 rfl dX8_copy_103 ?_
                refine dj_aload_n C 0 rfl dX8_copy_104 ?_
                refine dj_getr (r := 1) (k2 := 1) C dl_X8_11 rfl dz_0 rfl dX8_copy_105 ?_
                refine dj_iload_n C 3 rfl dX8_copy_108 ?_
                refine dj_aald C dr_50 dz_1 dX8_copy_109 (fun hi21 => ?_)
                refine dj_getr (r := 1) (k2 := (31 + 2 * x3.toNatClampNeg) + 1) C dl_X8_164 rfl (dt_50 hi21) rfl dX8_copy_110 ?_
                refine dj_iload C 4 rfl dX8_copy_113 ?_
                refine dj_iload C 5 rfl dX8_copy_115 ?_
                refine dj_copy (n0 := 60) (n1 := 60) C (dk_m2 112 rfl rfl) (dt_5_1 (dt_50 hi20)) (by decide) (dt_5_1 (dt_50 hi21)) (by decide) (Nat.le_of_ble_eq_true rfl) (Nat.le_of_ble_eq_true rfl) dX8_copy_117 (fun S22 => ?_)
                refine dj_iconst C dX8_copy_120 dc_iconst_1 ?_
                exact dj_iret C dX8_copy_121
              · refine dj_aload_n C 0 rfl dX8_copy_88 ?_
                refine dj_iconst C dX8_copy_89 dc_iconst_2 ?_
                refine dj_callVi (t := 8) (As := [.int 2]) C dw_X8_150 ⟨_, _, rfl⟩ (by decide) dz_0 (ct_X8_found l g 2 r18.2) ⟨Nat.le_of_ble_eq_true rfl, Nat.le_of_ble_eq_true rfl⟩ rfl (Nat.le_of_ble_eq_true rfl) rfl dX8_copy_90 (fun r23 => ?_)
                exact dj_iret C dX8_copy_93
          · refine dj_aload_n C 0 rfl dX8_copy_51 ?_
            refine dj_iconst C dX8_copy_52 dc_iconst_1 ?_
            refine dj_callVi (t := 8) (As := [.int 1]) C dw_X8_150 ⟨_, _, rfl⟩ (by decide) dz_0 (ct_X8_found l g 1 r11.2) ⟨Nat.le_of_ble_eq_true rfl, Nat.le_of_ble_eq_true rfl⟩ rfl (Nat.le_of_ble_eq_true rfl) rfl dX8_copy_53 (fun r24 => ?_)
            exact dj_iret C dX8_copy_56
      · refine dj_aload_n C 0 rfl dX8_copy_21 ?_
        refine dj_iconst C dX8_copy_22 dc_iconst_5 ?_
        refine dj_callVi (t := 8) (As := [.int 5]) C dw_X8_150 ⟨_, _, rfl⟩ (by decide) dz_0 (ct_X8_found l g 5 r3.2) ⟨Nat.le_of_ble_eq_true rfl, Nat.le_of_ble_eq_true rfl⟩ rfl (Nat.le_of_ble_eq_true rfl) rfl dX8_copy_23 (fun r25 => ?_)
        exact dj_iret C dX8_copy_26
    · refine dj_iconst C dX8_copy_14 dc_iconst_m1 ?_
      exact dj_iret C dX8_copy_15
noncomputable def fX8_mean (x1 : Int32) (S : dk_S) : Option (Int32 × dk_S) := (fX8_noRow x1 S).bind (fun r1 => if r1.1 = 0 then dk_gd (dk_in x1 6) ((fX5_isMissing (31 + 2 * x1.toNatClampNeg) r1.2).bind (fun r4 => if r4.1 = 0 then if (r4.2.1 (31 + 2 * x1.toNatClampNeg) 1) = 0 then (fX8_found 4 r4.2).bind (fun r9 => some (r9.1, r9.2)) else (fX5_sum (31 + 2 * x1.toNatClampNeg) r4.2).bind (fun r7 => dk_gd (decide (¬ ((r7.2.1 (31 + 2 * x1.toNatClampNeg) 1).toInt64) = 0)) ((fX8_tell ((r7.1 / ((r7.2.1 (31 + 2 * x1.toNatClampNeg) 1).toInt64)).toInt32) r7.2).bind (fun r8 => some (r8.1, r8.2)))) else (fX8_found 1 r4.2).bind (fun r10 => some (r10.1, r10.2)))) else some ((-1), r1.2))
set_option maxRecDepth 100000 in
set_option maxHeartbeats 4000000 in
theorem ct_X8_mean (l : Launch) (g : dk_G) (x1 : Int32) (S : dk_S)  : dk_M l g yX8_mean cX8_mean 3 (some .int) 2 42 [.ref (g.1 0), .int x1] S (fX8_mean x1 S) dk_qi := by
  refine dk_enter "DuckWalk" (by decide +kernel) rfl (Nat.le_of_ble_eq_true rfl) [(0, .ref (g.1 0)), (1, .int x1)] rfl ?_
  intro p e s m args below meth c C
  unfold fX8_mean
  refine dj_iload_n C 1 rfl dX8_mean_0 ?_
  refine dj_callSi (As := [.int x1]) C dw_X8_147 (ct_X8_noRow l g x1 S) ⟨Nat.le_of_ble_eq_true rfl, Nat.le_of_ble_eq_true rfl⟩ rfl (Nat.le_of_ble_eq_true rfl) rfl dX8_mean_1 (fun r1 => ?_)
  refine dj_if_eq (tgt := 9) C dX8_mean_4 (by decide) (fun c2 => ?_) (fun c2 => ?_)
  · refine dj_aload_n C 0 rfl dX8_mean_9 ?_
    refine dj_getr (r := 1) (k2 := 1) C dl_X8_11 rfl dz_0 rfl dX8_mean_10 ?_
    refine dj_iload_n C 1 rfl dX8_mean_13 ?_
    refine dj_aald C dr_50 dz_1 dX8_mean_14 (fun hi3 => ?_)
    refine dj_astore_n (lv2 := [(0, .ref (g.1 0)), (2, .ref (g.1 (31 + 2 * x1.toNatClampNeg)))]) C [1, 0] dX8_mean_15 rfl (by decide) rfl ?_
    refine dj_aload_n C 1 rfl dX8_mean_16 ?_
    refine dj_callVi (t := 5) (As := []) C dw_X8_157 ⟨_, _, rfl⟩ (by decide) (dt_50 hi3) (ct_X5_isMissing l g (31 + 2 * x1.toNatClampNeg) r1.2 (dt_50 hi3)) ⟨Nat.le_of_ble_eq_true rfl, Nat.le_of_ble_eq_true rfl⟩ rfl (Nat.le_of_ble_eq_true rfl) rfl dX8_mean_17 (fun r4 => ?_)
    refine dj_if_eq (tgt := 29) C dX8_mean_20 (by decide) (fun c5 => ?_) (fun c5 => ?_)
    · refine dj_aload_n C 1 rfl dX8_mean_29 ?_
      refine dj_geti C dl_X8_170 rfl (dt_50 hi3) dX8_mean_30 ?_
      refine dj_if_ne (tgt := 42) C dX8_mean_33 (by decide) (fun c6 => ?_) (fun c6 => ?_)
      · refine dj_aload_n C 0 rfl dX8_mean_42 ?_
        refine dj_aload_n C 1 rfl dX8_mean_43 ?_
        refine dj_callVl (t := 5) (As := []) C dw_X8_183 ⟨_, _, rfl⟩ (by decide) (dt_50 hi3) (ct_X5_sum l g (31 + 2 * x1.toNatClampNeg) r4.2 (dt_50 hi3)) ⟨Nat.le_of_ble_eq_true rfl, Nat.le_of_ble_eq_true rfl⟩ rfl (Nat.le_of_ble_eq_true rfl) rfl dX8_mean_44 (fun r7 => ?_)
        refine dj_aload_n C 1 rfl dX8_mean_47 ?_
        refine dj_geti C dl_X8_170 rfl (dt_50 hi3) dX8_mean_48 ?_
        refine dj_i2l C dX8_mean_51 ?_
        refine dj_ldivg C dX8_mean_52 ?_
        refine dj_l2i C dX8_mean_53 ?_
        refine dj_callVi (t := 8) (As := [.int ((r7.1 / ((r7.2.1 (31 + 2 * x1.toNatClampNeg) 1).toInt64)).toInt32)]) C dw_X8_167 ⟨_, _, rfl⟩ (by decide) dz_0 (ct_X8_tell l g ((r7.1 / ((r7.2.1 (31 + 2 * x1.toNatClampNeg) 1).toInt64)).toInt32) r7.2) ⟨Nat.le_of_ble_eq_true rfl, Nat.le_of_ble_eq_true rfl⟩ rfl (Nat.le_of_ble_eq_true rfl) rfl dX8_mean_54 (fun r8 => ?_)
        exact dj_iret C dX8_mean_57
      · refine dj_aload_n C 0 rfl dX8_mean_36 ?_
        refine dj_iconst C dX8_mean_37 dc_iconst_4 ?_
        refine dj_callVi (t := 8) (As := [.int 4]) C dw_X8_150 ⟨_, _, rfl⟩ (by decide) dz_0 (ct_X8_found l g 4 r4.2) ⟨Nat.le_of_ble_eq_true rfl, Nat.le_of_ble_eq_true rfl⟩ rfl (Nat.le_of_ble_eq_true rfl) rfl dX8_mean_38 (fun r9 => ?_)
        exact dj_iret C dX8_mean_41
    · refine dj_aload_n C 0 rfl dX8_mean_23 ?_
      refine dj_iconst C dX8_mean_24 dc_iconst_1 ?_
      refine dj_callVi (t := 8) (As := [.int 1]) C dw_X8_150 ⟨_, _, rfl⟩ (by decide) dz_0 (ct_X8_found l g 1 r4.2) ⟨Nat.le_of_ble_eq_true rfl, Nat.le_of_ble_eq_true rfl⟩ rfl (Nat.le_of_ble_eq_true rfl) rfl dX8_mean_25 (fun r10 => ?_)
      exact dj_iret C dX8_mean_28
  · refine dj_iconst C dX8_mean_7 dc_iconst_m1 ?_
    exact dj_iret C dX8_mean_8
noncomputable def fX8_text (x1 : Int32) (x2 : Int32) (S : dk_S) : Option (Int32 × dk_S) := (fX8_noText x1 S).bind (fun r1 => if r1.1 = 0 then if x2 ≤ 80 then if 0 ≤ x2 then dk_gd (dk_in x1 4) ((fX6_renew (43 + 2 * x1.toNatClampNeg) x2 r1.2).bind (fun r6 => some (x2, r6))) else (fX8_found 5 r1.2).bind (fun r7 => some (r7.1, r7.2)) else some ((-1), r1.2) else some ((-1), r1.2))
set_option maxRecDepth 100000 in
set_option maxHeartbeats 4000000 in
theorem ct_X8_text (l : Launch) (g : dk_G) (x1 : Int32) (x2 : Int32) (S : dk_S)  : dk_M l g yX8_text cX8_text 3 (some .int) 2 44 [.ref (g.1 0), .int x1, .int x2] S (fX8_text x1 x2 S) dk_qi := by
  refine dk_enter "DuckWalk" (by decide +kernel) rfl (Nat.le_of_ble_eq_true rfl) [(0, .ref (g.1 0)), (1, .int x1), (2, .int x2)] rfl ?_
  intro p e s m args below meth c C
  unfold fX8_text
  refine dj_iload_n C 1 rfl dX8_text_0 ?_
  refine dj_callSi (As := [.int x1]) C dw_X8_187 (ct_X8_noText l g x1 S) ⟨Nat.le_of_ble_eq_true rfl, Nat.le_of_ble_eq_true rfl⟩ rfl (Nat.le_of_ble_eq_true rfl) rfl dX8_text_1 (fun r1 => ?_)
  refine dj_if_ne (tgt := 13) C dX8_text_4 (by decide) (fun c2 => ?_) (fun c2 => ?_)
  · refine dj_iconst C dX8_text_13 dc_iconst_m1 ?_
    exact dj_iret C dX8_text_14
  · refine dj_iload_n C 2 rfl dX8_text_7 ?_
    refine dj_bipush C dX8_text_8 dc_bipush_80 ?_
    refine dj_icmp_le (tgt := 15) C dX8_text_10 (by decide) (fun c3 => ?_) (fun c3 => ?_)
    · refine dj_iload_n C 2 rfl dX8_text_15 ?_
      refine dj_if_ge (tgt := 25) C dX8_text_16 (by decide) (fun c4 => ?_) (fun c4 => ?_)
      · refine dj_aload_n C 0 rfl dX8_text_25 ?_
        refine dj_getr (r := 2) (k2 := 2) C dl_X8_17 rfl dz_0 rfl dX8_text_26 ?_
        refine dj_iload_n C 1 rfl dX8_text_29 ?_
        refine dj_aald C dr_51 dz_2 dX8_text_30 (fun hi5 => ?_)
        refine dj_iload_n C 2 rfl dX8_text_31 ?_
        refine dj_callVv (t := 6) (As := [.int x2]) C dw_X8_190 ⟨_, _, rfl⟩ (by decide) (dt_51 hi5) (ct_X6_renew l g (43 + 2 * x1.toNatClampNeg) x2 r1.2 (dt_51 hi5)) ⟨Nat.le_of_ble_eq_true rfl, Nat.le_of_ble_eq_true rfl⟩ rfl (Nat.le_of_ble_eq_true rfl) rfl dX8_text_32 (fun r6 => ?_)
        refine dj_iload_n C 2 rfl dX8_text_35 ?_
        exact dj_iret C dX8_text_36
      · refine dj_aload_n C 0 rfl dX8_text_19 ?_
        refine dj_iconst C dX8_text_20 dc_iconst_5 ?_
        refine dj_callVi (t := 8) (As := [.int 5]) C dw_X8_150 ⟨_, _, rfl⟩ (by decide) dz_0 (ct_X8_found l g 5 r1.2) ⟨Nat.le_of_ble_eq_true rfl, Nat.le_of_ble_eq_true rfl⟩ rfl (Nat.le_of_ble_eq_true rfl) rfl dX8_text_21 (fun r7 => ?_)
        exact dj_iret C dX8_text_24
    · refine dj_iconst C dX8_text_13 dc_iconst_m1 ?_
      exact dj_iret C dX8_text_14
noncomputable def fX8_put (x1 : Int32) (x2 : Int32) (x3 : Int32) (S : dk_S) : Option (Int32 × dk_S) := (fX8_noText x1 S).bind (fun r1 => if r1.1 = 0 then dk_gd (dk_in x1 4) ((fX6_isMissing (43 + 2 * x1.toNatClampNeg) r1.2).bind (fun r4 => if r4.1 = 0 then (fX6_has (43 + 2 * x1.toNatClampNeg) x2 r4.2).bind (fun r6 => if r6.1 = 0 then (fX8_found 2 r6.2).bind (fun r10 => some (r10.1, r10.2)) else dk_gd (dk_in x2 80) (dk_lt (r6.2.1 ((43 + 2 * x1.toNatClampNeg) + 1) x2.toNatClampNeg) (fun y8 : Int32 => dk_gd (dk_in x2 80) (dk_lt (dk_si r6.2 ((43 + 2 * x1.toNatClampNeg) + 1) x2.toNatClampNeg (vp_nar .byte x3.toInt8.toInt32)) (fun S9 => some (y8 + 1000, S9)))))) else (fX8_found 1 r4.2).bind (fun r11 => some (r11.1, r11.2)))) else some ((-1), r1.2))
set_option maxRecDepth 100000 in
set_option maxHeartbeats 4000000 in
theorem ct_X8_put (l : Launch) (g : dk_G) (x1 : Int32) (x2 : Int32) (x3 : Int32) (S : dk_S)  : dk_M l g yX8_put cX8_put 6 (some .int) 2 42 [.ref (g.1 0), .int x1, .int x2, .int x3] S (fX8_put x1 x2 x3 S) dk_qi := by
  refine dk_enter "DuckWalk" (by decide +kernel) rfl (Nat.le_of_ble_eq_true rfl) [(0, .ref (g.1 0)), (1, .int x1), (2, .int x2), (3, .int x3)] rfl ?_
  intro p e s m args below meth c C
  unfold fX8_put
  refine dj_iload_n C 1 rfl dX8_put_0 ?_
  refine dj_callSi (As := [.int x1]) C dw_X8_187 (ct_X8_noText l g x1 S) ⟨Nat.le_of_ble_eq_true rfl, Nat.le_of_ble_eq_true rfl⟩ rfl (Nat.le_of_ble_eq_true rfl) rfl dX8_put_1 (fun r1 => ?_)
  refine dj_if_eq (tgt := 9) C dX8_put_4 (by decide) (fun c2 => ?_) (fun c2 => ?_)
  · refine dj_aload_n C 0 rfl dX8_put_9 ?_
    refine dj_getr (r := 2) (k2 := 2) C dl_X8_17 rfl dz_0 rfl dX8_put_10 ?_
    refine dj_iload_n C 1 rfl dX8_put_13 ?_
    refine dj_aald C dr_51 dz_2 dX8_put_14 (fun hi3 => ?_)
    refine dj_astore (lv2 := [(0, .ref (g.1 0)), (2, .int x2), (3, .int x3), (4, .ref (g.1 (43 + 2 * x1.toNatClampNeg)))]) C [1, 3, 4, 0] dX8_put_15 (by decide) rfl ?_
    refine dj_aload C 3 rfl dX8_put_17 ?_
    refine dj_callVi (t := 6) (As := []) C dw_X8_191 ⟨_, _, rfl⟩ (by decide) (dt_51 hi3) (ct_X6_isMissing l g (43 + 2 * x1.toNatClampNeg) r1.2 (dt_51 hi3)) ⟨Nat.le_of_ble_eq_true rfl, Nat.le_of_ble_eq_true rfl⟩ rfl (Nat.le_of_ble_eq_true rfl) rfl dX8_put_19 (fun r4 => ?_)
    refine dj_if_eq (tgt := 31) C dX8_put_22 (by decide) (fun c5 => ?_) (fun c5 => ?_)
    · refine dj_aload C 3 rfl dX8_put_31 ?_
      refine dj_iload_n C 1 rfl dX8_put_33 ?_
      refine dj_callVi (t := 6) (As := [.int x2]) C dw_X8_192 ⟨_, _, rfl⟩ (by decide) (dt_51 hi3) (ct_X6_has l g (43 + 2 * x1.toNatClampNeg) x2 r4.2 (dt_51 hi3)) ⟨Nat.le_of_ble_eq_true rfl, Nat.le_of_ble_eq_true rfl⟩ rfl (Nat.le_of_ble_eq_true rfl) rfl dX8_put_34 (fun r6 => ?_)
      refine dj_if_ne (tgt := 46) C dX8_put_37 (by decide) (fun c7 => ?_) (fun c7 => ?_)
      · refine dj_aload C 3 rfl dX8_put_46 ?_
        refine dj_getr (r := 1) (k2 := (43 + 2 * x1.toNatClampNeg) + 1) C dl_X8_193 rfl (dt_51 hi3) rfl dX8_put_48 ?_
        refine dj_iload_n C 1 rfl dX8_put_51 ?_
        refine dj_bald (n := 80) C (dt_6_1 (dt_51 hi3)) (by decide) dX8_put_52 ?_
        refine dj_lti (fun y8 => ?_)
        refine dj_istore (lv2 := [(2, .int x2), (3, .int x3), (4, .ref (g.1 (43 + 2 * x1.toNatClampNeg))), (5, .int y8)]) C [2, 3, 4, 0] dX8_put_53 (by decide) rfl ?_
        refine dj_aload C 2 rfl dX8_put_55 ?_
        refine dj_getr (r := 1) (k2 := (43 + 2 * x1.toNatClampNeg) + 1) C dl_X8_193 rfl (dt_51 hi3) rfl dX8_put_57 ?_
        refine dj_iload_n C 0 rfl dX8_put_60 ?_
        refine dj_iload_n C 1 rfl dX8_put_61 ?_
        refine dj_i2b C dX8_put_62 ?_
        refine dj_bast (n := 80) C (dt_6_1 (dt_51 hi3)) (by decide) dX8_put_63 (fun S9 => ?_)
        refine dj_iload C 3 rfl dX8_put_64 ?_
        refine dj_sipush C dX8_put_66 dc_sipush_1000 ?_
        refine dj_iadd C dX8_put_69 ?_
        exact dj_iret C dX8_put_70
      · refine dj_aload_n C 0 rfl dX8_put_40 ?_
        refine dj_iconst C dX8_put_41 dc_iconst_2 ?_
        refine dj_callVi (t := 8) (As := [.int 2]) C dw_X8_150 ⟨_, _, rfl⟩ (by decide) dz_0 (ct_X8_found l g 2 r6.2) ⟨Nat.le_of_ble_eq_true rfl, Nat.le_of_ble_eq_true rfl⟩ rfl (Nat.le_of_ble_eq_true rfl) rfl dX8_put_42 (fun r10 => ?_)
        exact dj_iret C dX8_put_45
    · refine dj_aload_n C 0 rfl dX8_put_25 ?_
      refine dj_iconst C dX8_put_26 dc_iconst_1 ?_
      refine dj_callVi (t := 8) (As := [.int 1]) C dw_X8_150 ⟨_, _, rfl⟩ (by decide) dz_0 (ct_X8_found l g 1 r4.2) ⟨Nat.le_of_ble_eq_true rfl, Nat.le_of_ble_eq_true rfl⟩ rfl (Nat.le_of_ble_eq_true rfl) rfl dX8_put_27 (fun r11 => ?_)
      exact dj_iret C dX8_put_30
  · refine dj_iconst C dX8_put_7 dc_iconst_m1 ?_
    exact dj_iret C dX8_put_8
noncomputable def fX8_fault (x1 : Int32) (x2 : Int32) (S : dk_S) : Option (Int32 × dk_S) := (fX8_noText x1 S).bind (fun r1 => if r1.1 = 0 then dk_gd (dk_in x1 4) ((fX6_isMissing (43 + 2 * x1.toNatClampNeg) r1.2).bind (fun r4 => if r4.1 = 0 then if x2 = 0 then dk_gd (dk_in x1 4) ((fX4_readDuck (43 + 2 * x1.toNatClampNeg) r4.2).bind (fun r8 => some (r8.1, r8.2))) else dk_gd (dk_in x1 4) ((fX4_readPlank (43 + 2 * x1.toNatClampNeg) r4.2).bind (fun r10 => some (r10.1, r10.2))) else (fX8_found 1 r4.2).bind (fun r11 => some (r11.1, r11.2)))) else some ((-1), r1.2))
set_option maxRecDepth 100000 in
set_option maxHeartbeats 4000000 in
theorem ct_X8_fault (l : Launch) (g : dk_G) (x1 : Int32) (x2 : Int32) (S : dk_S)  : dk_M l g yX8_fault cX8_fault 3 (some .int) 5 113 [.ref (g.1 0), .int x1, .int x2] S (fX8_fault x1 x2 S) dk_qi := by
  refine dk_enter "DuckWalk" (by decide +kernel) rfl (Nat.le_of_ble_eq_true rfl) [(0, .ref (g.1 0)), (1, .int x1), (2, .int x2)] rfl ?_
  intro p e s m args below meth c C
  unfold fX8_fault
  refine dj_iload_n C 1 rfl dX8_fault_0 ?_
  refine dj_callSi (As := [.int x1]) C dw_X8_187 (ct_X8_noText l g x1 S) ⟨Nat.le_of_ble_eq_true rfl, Nat.le_of_ble_eq_true rfl⟩ rfl (Nat.le_of_ble_eq_true rfl) rfl dX8_fault_1 (fun r1 => ?_)
  refine dj_if_eq (tgt := 9) C dX8_fault_4 (by decide) (fun c2 => ?_) (fun c2 => ?_)
  · refine dj_aload_n C 0 rfl dX8_fault_9 ?_
    refine dj_getr (r := 2) (k2 := 2) C dl_X8_17 rfl dz_0 rfl dX8_fault_10 ?_
    refine dj_iload_n C 1 rfl dX8_fault_13 ?_
    refine dj_aald C dr_51 dz_2 dX8_fault_14 (fun hi3 => ?_)
    refine dj_callVi (t := 6) (As := []) C dw_X8_191 ⟨_, _, rfl⟩ (by decide) (dt_51 hi3) (ct_X6_isMissing l g (43 + 2 * x1.toNatClampNeg) r1.2 (dt_51 hi3)) ⟨Nat.le_of_ble_eq_true rfl, Nat.le_of_ble_eq_true rfl⟩ rfl (Nat.le_of_ble_eq_true rfl) rfl dX8_fault_15 (fun r4 => ?_)
    refine dj_if_eq (tgt := 27) C dX8_fault_18 (by decide) (fun c5 => ?_) (fun c5 => ?_)
    · refine dj_iload_n C 2 rfl dX8_fault_27 ?_
      refine dj_if_eq (tgt := 47) C dX8_fault_28 (by decide) (fun c6 => ?_) (fun c6 => ?_)
      · refine dj_aload_n C 0 rfl dX8_fault_47 ?_
        refine dj_getr (r := 11) (k2 := 11) C dl_X8_47 rfl dz_0 rfl dX8_fault_48 ?_
        refine dj_aload_n C 0 rfl dX8_fault_51 ?_
        refine dj_getr (r := 2) (k2 := 2) C dl_X8_17 rfl dz_0 rfl dX8_fault_52 ?_
        refine dj_iload_n C 1 rfl dX8_fault_55 ?_
        refine dj_aald C dr_51 dz_2 dX8_fault_56 (fun hi7 => ?_)
        refine dj_callVi (t := 4) (As := [.ref (g.1 (43 + 2 * x1.toNatClampNeg))]) C dw_X8_201 ⟨_, _, rfl⟩ (by decide) dz_11 (ct_X4_readDuck l g (43 + 2 * x1.toNatClampNeg) r4.2 (dt_51 hi7)) ⟨Nat.le_of_ble_eq_true rfl, Nat.le_of_ble_eq_true rfl⟩ rfl (Nat.le_of_ble_eq_true rfl) rfl dX8_fault_57 (fun r8 => ?_)
        exact dj_iret C dX8_fault_60
      · refine dj_aload_n C 0 rfl dX8_fault_31 ?_
        refine dj_getr (r := 11) (k2 := 11) C dl_X8_47 rfl dz_0 rfl dX8_fault_32 ?_
        refine dj_aload_n C 0 rfl dX8_fault_35 ?_
        refine dj_getr (r := 2) (k2 := 2) C dl_X8_17 rfl dz_0 rfl dX8_fault_36 ?_
        refine dj_iload_n C 1 rfl dX8_fault_39 ?_
        refine dj_aald C dr_51 dz_2 dX8_fault_40 (fun hi9 => ?_)
        refine dj_callVi (t := 4) (As := [.ref (g.1 (43 + 2 * x1.toNatClampNeg))]) C dw_X8_197 ⟨_, _, rfl⟩ (by decide) dz_11 (ct_X4_readPlank l g (43 + 2 * x1.toNatClampNeg) r4.2 (dt_51 hi9)) ⟨Nat.le_of_ble_eq_true rfl, Nat.le_of_ble_eq_true rfl⟩ rfl (Nat.le_of_ble_eq_true rfl) rfl dX8_fault_41 (fun r10 => ?_)
        refine dj_goto (tgt := 60) C dX8_fault_44 (by decide) ?_
        exact dj_iret C dX8_fault_60
    · refine dj_aload_n C 0 rfl dX8_fault_21 ?_
      refine dj_iconst C dX8_fault_22 dc_iconst_1 ?_
      refine dj_callVi (t := 8) (As := [.int 1]) C dw_X8_150 ⟨_, _, rfl⟩ (by decide) dz_0 (ct_X8_found l g 1 r4.2) ⟨Nat.le_of_ble_eq_true rfl, Nat.le_of_ble_eq_true rfl⟩ rfl (Nat.le_of_ble_eq_true rfl) rfl dX8_fault_23 (fun r11 => ?_)
      exact dj_iret C dX8_fault_26
  · refine dj_iconst C dX8_fault_7 dc_iconst_m1 ?_
    exact dj_iret C dX8_fault_8
noncomputable def fJ6_bitCount_0f7a4 (x0 : Int32) (S : dk_S) : Option (Int32 × dk_S) := dk_lt (x0 - (((x0.toUInt32 >>> ((1 : Int32).toUInt32 &&& Int32.toUInt32 31)).toInt32) &&& 1431655765)) (fun y1 : Int32 => dk_lt ((y1 &&& 858993459) + (((y1.toUInt32 >>> ((2 : Int32).toUInt32 &&& Int32.toUInt32 31)).toInt32) &&& 858993459)) (fun y2 : Int32 => dk_lt ((y2 + ((y2.toUInt32 >>> ((4 : Int32).toUInt32 &&& Int32.toUInt32 31)).toInt32)) &&& 252645135) (fun y3 : Int32 => dk_lt (y3 + ((y3.toUInt32 >>> ((8 : Int32).toUInt32 &&& Int32.toUInt32 31)).toInt32)) (fun y4 : Int32 => dk_lt (y4 + ((y4.toUInt32 >>> ((16 : Int32).toUInt32 &&& Int32.toUInt32 31)).toInt32)) (fun y5 : Int32 => some (y5 &&& 63, S))))))
set_option maxRecDepth 100000 in
set_option maxHeartbeats 4000000 in
theorem ct_J6_bitCount_0f7a4 (l : Launch) (g : dk_G) (x0 : Int32) (S : dk_S)  : dk_M l g yJ6_bitCount_0f7a4 cJ6_bitCount_0f7a4 1 (some .int) 0 0 [.int x0] S (fJ6_bitCount_0f7a4 x0 S) dk_qi := by
  refine dk_enter "java/lang/Integer" (by decide +kernel) rfl (Nat.le_of_ble_eq_true rfl) [(0, .int x0)] rfl ?_
  intro p e s m args below meth c C
  unfold fJ6_bitCount_0f7a4
  refine dj_iload_n C 0 rfl dJ6_bitCount_0f7a4_0 ?_
  refine dj_iload_n C 0 rfl dJ6_bitCount_0f7a4_1 ?_
  refine dj_iconst C dJ6_bitCount_0f7a4_2 dc_iconst_1 ?_
  refine dj_iushr C dJ6_bitCount_0f7a4_3 ?_
  refine dj_ldcw C (dk_m2 221 rfl rfl) dJ6_bitCount_0f7a4_4 ?_
  refine dj_iand C dJ6_bitCount_0f7a4_7 ?_
  refine dj_isub C dJ6_bitCount_0f7a4_8 ?_
  refine dj_lti (fun y1 => ?_)
  refine dj_istore_n (lv2 := [(0, .int y1)]) C [0] dJ6_bitCount_0f7a4_9 rfl (by decide) rfl ?_
  refine dj_iload_n C 0 rfl dJ6_bitCount_0f7a4_10 ?_
  refine dj_ldcw C (dk_m2 222 rfl rfl) dJ6_bitCount_0f7a4_11 ?_
  refine dj_iand C dJ6_bitCount_0f7a4_14 ?_
  refine dj_iload_n C 0 rfl dJ6_bitCount_0f7a4_15 ?_
  refine dj_iconst C dJ6_bitCount_0f7a4_16 dc_iconst_2 ?_
  refine dj_iushr C dJ6_bitCount_0f7a4_17 ?_
  refine dj_ldcw C (dk_m2 222 rfl rfl) dJ6_bitCount_0f7a4_18 ?_
  refine dj_iand C dJ6_bitCount_0f7a4_21 ?_
  refine dj_iadd C dJ6_bitCount_0f7a4_22 ?_
  refine dj_lti (fun y2 => ?_)
  refine dj_istore_n (lv2 := [(0, .int y2)]) C [0] dJ6_bitCount_0f7a4_23 rfl (by decide) rfl ?_
  refine dj_iload_n C 0 rfl dJ6_bitCount_0f7a4_24 ?_
  refine dj_iload_n C 0 rfl dJ6_bitCount_0f7a4_25 ?_
  refine dj_iconst C dJ6_bitCount_0f7a4_26 dc_iconst_4 ?_
  refine dj_iushr C dJ6_bitCount_0f7a4_27 ?_
  refine dj_iadd C dJ6_bitCount_0f7a4_28 ?_
  refine dj_ldcw C (dk_m2 223 rfl rfl) dJ6_bitCount_0f7a4_29 ?_
  refine dj_iand C dJ6_bitCount_0f7a4_32 ?_
  refine dj_lti (fun y3 => ?_)
  refine dj_istore_n (lv2 := [(0, .int y3)]) C [0] dJ6_bitCount_0f7a4_33 rfl (by decide) rfl ?_
  refine dj_iload_n C 0 rfl dJ6_bitCount_0f7a4_34 ?_
  refine dj_iload_n C 0 rfl dJ6_bitCount_0f7a4_35 ?_
  refine dj_bipush C dJ6_bitCount_0f7a4_36 dc_bipush_8 ?_
  refine dj_iushr C dJ6_bitCount_0f7a4_38 ?_
  refine dj_iadd C dJ6_bitCount_0f7a4_39 ?_
  refine dj_lti (fun y4 => ?_)
  refine dj_istore_n (lv2 := [(0, .int y4)]) C [0] dJ6_bitCount_0f7a4_40 rfl (by decide) rfl ?_
  refine dj_iload_n C 0 rfl dJ6_bitCount_0f7a4_41 ?_
  refine dj_iload_n C 0 rfl dJ6_bitCount_0f7a4_42 ?_
  refine dj_bipush C dJ6_bitCount_0f7a4_43 dc_bipush_16 ?_
  refine dj_iushr C dJ6_bitCount_0f7a4_45 ?_
  refine dj_iadd C dJ6_bitCount_0f7a4_46 ?_
  refine dj_lti (fun y5 => ?_)
  refine dj_istore_n (lv2 := [(0, .int y5)]) C [0] dJ6_bitCount_0f7a4_47 rfl (by decide) rfl ?_
  refine dj_iload_n C 0 rfl dJ6_bitCount_0f7a4_48 ?_
  refine dj_bipush C dJ6_bitCount_0f7a4_49 dc_bipush_63 ?_
  refine dj_iand C dJ6_bitCount_0f7a4_51 ?_
  exact dj_iret C dJ6_bitCount_0f7a4_52
noncomputable def fX8_walker (x1 : Int32) (x2 : Int32) (S : dk_S) : Option (Int32 × dk_S) := (fX8_noWalker x1 S).bind (fun r1 => if r1.1 = 0 then (fX8_noText x2 r1.2).bind (fun r3 => if r3.1 = 0 then dk_gd (dk_in x2 4) ((fX6_isMissing (43 + 2 * x2.toNatClampNeg) r3.2).bind (fun r6 => if r6.1 = 0 then dk_gd (dk_in x2 4) ((fX4_readDuck (43 + 2 * x2.toNatClampNeg) r6.2).bind (fun r9 => if r9.1 = (-9) then dk_gd (dk_in x1 4) ((fX1_take (51 + 2 * x1.toNatClampNeg) 12 r9.2).bind (fun r12 => dk_gd (dk_in x1 4) (dk_lt (dk_si r12 (51 + 2 * x1.toNatClampNeg) 2 1) (fun S14 => dk_gd (dk_in x1 4) ((fJ6_bitCount_0f7a4 (S14.1 (51 + 2 * x1.toNatClampNeg) 1) S14).bind (fun r16 => some (r16.1, r16.2))))))) else some ((-4), r9.2))) else (fX8_found 1 r6.2).bind (fun r17 => some (r17.1, r17.2)))) else some ((-1), r3.2)) else some ((-1), r1.2))
set_option maxRecDepth 100000 in
set_option maxHeartbeats 4000000 in
theorem ct_X8_walker (l : Launch) (g : dk_G) (x1 : Int32) (x2 : Int32) (S : dk_S)  : dk_M l g yX8_walker cX8_walker 3 (some .int) 5 112 [.ref (g.1 0), .int x1, .int x2] S (fX8_walker x1 x2 S) dk_qi := by
  refine dk_enter "DuckWalk" (by decide +kernel) rfl (Nat.le_of_ble_eq_true rfl) [(0, .ref (g.1 0)), (1, .int x1), (2, .int x2)] rfl ?_
  intro p e s m args below meth c C
  unfold fX8_walker
  refine dj_iload_n C 1 rfl dX8_walker_0 ?_
  refine dj_callSi (As := [.int x1]) C dw_X8_94 (ct_X8_noWalker l g x1 S) ⟨Nat.le_of_ble_eq_true rfl, Nat.le_of_ble_eq_true rfl⟩ rfl (Nat.le_of_ble_eq_true rfl) rfl dX8_walker_1 (fun r1 => ?_)
  refine dj_if_ne (tgt := 14) C dX8_walker_4 (by decide) (fun c2 => ?_) (fun c2 => ?_)
  · refine dj_iconst C dX8_walker_14 dc_iconst_m1 ?_
    exact dj_iret C dX8_walker_15
  · refine dj_iload_n C 2 rfl dX8_walker_7 ?_
    refine dj_callSi (As := [.int x2]) C dw_X8_187 (ct_X8_noText l g x2 r1.2) ⟨Nat.le_of_ble_eq_true rfl, Nat.le_of_ble_eq_true rfl⟩ rfl (Nat.le_of_ble_eq_true rfl) rfl dX8_walker_8 (fun r3 => ?_)
    refine dj_if_eq (tgt := 16) C dX8_walker_11 (by decide) (fun c4 => ?_) (fun c4 => ?_)
    · refine dj_aload_n C 0 rfl dX8_walker_16 ?_
      refine dj_getr (r := 2) (k2 := 2) C dl_X8_17 rfl dz_0 rfl dX8_walker_17 ?_
      refine dj_iload_n C 2 rfl dX8_walker_20 ?_
      refine dj_aald C dr_51 dz_2 dX8_walker_21 (fun hi5 => ?_)
      refine dj_callVi (t := 6) (As := []) C dw_X8_191 ⟨_, _, rfl⟩ (by decide) (dt_51 hi5) (ct_X6_isMissing l g (43 + 2 * x2.toNatClampNeg) r3.2 (dt_51 hi5)) ⟨Nat.le_of_ble_eq_true rfl, Nat.le_of_ble_eq_true rfl⟩ rfl (Nat.le_of_ble_eq_true rfl) rfl dX8_walker_22 (fun r6 => ?_)
      refine dj_if_eq (tgt := 34) C dX8_walker_25 (by decide) (fun c7 => ?_) (fun c7 => ?_)
      · refine dj_aload_n C 0 rfl dX8_walker_34 ?_
        refine dj_getr (r := 11) (k2 := 11) C dl_X8_47 rfl dz_0 rfl dX8_walker_35 ?_
        refine dj_aload_n C 0 rfl dX8_walker_38 ?_
        refine dj_getr (r := 2) (k2 := 2) C dl_X8_17 rfl dz_0 rfl dX8_walker_39 ?_
        refine dj_iload_n C 2 rfl dX8_walker_42 ?_
        refine dj_aald C dr_51 dz_2 dX8_walker_43 (fun hi8 => ?_)
        refine dj_callVi (t := 4) (As := [.ref (g.1 (43 + 2 * x2.toNatClampNeg))]) C dw_X8_201 ⟨_, _, rfl⟩ (by decide) dz_11 (ct_X4_readDuck l g (43 + 2 * x2.toNatClampNeg) r6.2 (dt_51 hi8)) ⟨Nat.le_of_ble_eq_true rfl, Nat.le_of_ble_eq_true rfl⟩ rfl (Nat.le_of_ble_eq_true rfl) rfl dX8_walker_44 (fun r9 => ?_)
        refine dj_bipush C dX8_walker_47 dc_bipush_m9 ?_
        refine dj_icmp_eq (tgt := 55) C dX8_walker_49 (by decide) (fun c10 => ?_) (fun c10 => ?_)
        · refine dj_aload_n C 0 rfl dX8_walker_55 ?_
          refine dj_getr (r := 3) (k2 := 3) C dl_X8_23 rfl dz_0 rfl dX8_walker_56 ?_
          refine dj_iload_n C 1 rfl dX8_walker_59 ?_
          refine dj_aald C dr_52 dz_3 dX8_walker_60 (fun hi11 => ?_)
          refine dj_aload_n C 0 rfl dX8_walker_61 ?_
          refine dj_getr (r := 11) (k2 := 11) C dl_X8_47 rfl dz_0 rfl dX8_walker_62 ?_
          refine dj_getr (r := 1) (k2 := 12) C dl_X8_204 rfl dz_11 rfl dX8_walker_65 ?_
          refine dj_callVv (t := 1) (As := [.ref (g.1 12)]) C dw_X8_120 ⟨_, _, rfl⟩ (by decide) (dt_52 hi11) (ct_X1_take l g (51 + 2 * x1.toNatClampNeg) 12 r9.2 (dt_52 hi11) dz_12) ⟨Nat.le_of_ble_eq_true rfl, Nat.le_of_ble_eq_true rfl⟩ rfl (Nat.le_of_ble_eq_true rfl) rfl dX8_walker_68 (fun r12 => ?_)
          refine dj_aload_n C 0 rfl dX8_walker_71 ?_
          refine dj_getr (r := 3) (k2 := 3) C dl_X8_23 rfl dz_0 rfl dX8_walker_72 ?_
          refine dj_iload_n C 1 rfl dX8_walker_75 ?_
          refine dj_aald C dr_52 dz_3 dX8_walker_76 (fun hi13 => ?_)
          refine dj_iconst C dX8_walker_77 dc_iconst_1 ?_
          refine dj_putz C dl_X8_110 dp_1_2 rfl (dt_52 hi13) (by decide) dX8_walker_78 (fun S14 => ?_)
          refine dj_aload_n C 0 rfl dX8_walker_81 ?_
          refine dj_getr (r := 3) (k2 := 3) C dl_X8_23 rfl dz_0 rfl dX8_walker_82 ?_
          refine dj_iload_n C 1 rfl dX8_walker_85 ?_
          refine dj_aald C dr_52 dz_3 dX8_walker_86 (fun hi15 => ?_)
          refine dj_geti C dl_X8_205 rfl (dt_52 hi15) dX8_walker_87 ?_
          refine dj_callSi (As := [.int (S14.1 (51 + 2 * x1.toNatClampNeg) 1)]) C dw_X8_208 (ct_J6_bitCount_0f7a4 l g (S14.1 (51 + 2 * x1.toNatClampNeg) 1) S14) ⟨Nat.le_of_ble_eq_true rfl, Nat.le_of_ble_eq_true rfl⟩ rfl (Nat.le_of_ble_eq_true rfl) rfl dX8_walker_90 (fun r16 => ?_)
          exact dj_iret C dX8_walker_93
        · refine dj_bipush C dX8_walker_52 dc_bipush_m4 ?_
          exact dj_iret C dX8_walker_54
      · refine dj_aload_n C 0 rfl dX8_walker_28 ?_
        refine dj_iconst C dX8_walker_29 dc_iconst_1 ?_
        refine dj_callVi (t := 8) (As := [.int 1]) C dw_X8_150 ⟨_, _, rfl⟩ (by decide) dz_0 (ct_X8_found l g 1 r6.2) ⟨Nat.le_of_ble_eq_true rfl, Nat.le_of_ble_eq_true rfl⟩ rfl (Nat.le_of_ble_eq_true rfl) rfl dX8_walker_30 (fun r17 => ?_)
        exact dj_iret C dX8_walker_33
    · refine dj_iconst C dX8_walker_14 dc_iconst_m1 ?_
      exact dj_iret C dX8_walker_15
noncomputable def fX8_board (x1 : Int32) (x2 : Int32) (S : dk_S) : Option (Int32 × dk_S) := (fX8_noBoard x1 S).bind (fun r1 => if r1.1 = 0 then (fX8_noText x2 r1.2).bind (fun r3 => if r3.1 = 0 then dk_gd (dk_in x2 4) ((fX6_isMissing (43 + 2 * x2.toNatClampNeg) r3.2).bind (fun r6 => if r6.1 = 0 then dk_gd (dk_in x2 4) ((fX4_readPlank (43 + 2 * x2.toNatClampNeg) r6.2).bind (fun r9 => if r9.1 = (-9) then dk_gd (dk_in x1 4) ((fX3_take (59 + 2 * x1.toNatClampNeg) 14 r9.2).bind (fun r12 => dk_gd (dk_in x1 4) (dk_lt (dk_si r12 (59 + 2 * x1.toNatClampNeg) 2 1) (fun S14 => some (S14.1 11 2, S14))))) else some ((-4), r9.2))) else (fX8_found 1 r6.2).bind (fun r15 => some (r15.1, r15.2)))) else some ((-1), r3.2)) else some ((-1), r1.2))
set_option maxRecDepth 100000 in
set_option maxHeartbeats 4000000 in
theorem ct_X8_board (l : Launch) (g : dk_G) (x1 : Int32) (x2 : Int32) (S : dk_S)  : dk_M l g yX8_board cX8_board 3 (some .int) 5 113 [.ref (g.1 0), .int x1, .int x2] S (fX8_board x1 x2 S) dk_qi := by
  refine dk_enter "DuckWalk" (by decide +kernel) rfl (Nat.le_of_ble_eq_true rfl) [(0, .ref (g.1 0)), (1, .int x1), (2, .int x2)] rfl ?_
  intro p e s m args below meth c C
  unfold fX8_board
  refine dj_iload_n C 1 rfl dX8_board_0 ?_
  refine dj_callSi (As := [.int x1]) C dw_X8_98 (ct_X8_noBoard l g x1 S) ⟨Nat.le_of_ble_eq_true rfl, Nat.le_of_ble_eq_true rfl⟩ rfl (Nat.le_of_ble_eq_true rfl) rfl dX8_board_1 (fun r1 => ?_)
  refine dj_if_ne (tgt := 14) C dX8_board_4 (by decide) (fun c2 => ?_) (fun c2 => ?_)
  · refine dj_iconst C dX8_board_14 dc_iconst_m1 ?_
    exact dj_iret C dX8_board_15
  · refine dj_iload_n C 2 rfl dX8_board_7 ?_
    refine dj_callSi (As := [.int x2]) C dw_X8_187 (ct_X8_noText l g x2 r1.2) ⟨Nat.le_of_ble_eq_true rfl, Nat.le_of_ble_eq_true rfl⟩ rfl (Nat.le_of_ble_eq_true rfl) rfl dX8_board_8 (fun r3 => ?_)
    refine dj_if_eq (tgt := 16) C dX8_board_11 (by decide) (fun c4 => ?_) (fun c4 => ?_)
    · refine dj_aload_n C 0 rfl dX8_board_16 ?_
      refine dj_getr (r := 2) (k2 := 2) C dl_X8_17 rfl dz_0 rfl dX8_board_17 ?_
      refine dj_iload_n C 2 rfl dX8_board_20 ?_
      refine dj_aald C dr_51 dz_2 dX8_board_21 (fun hi5 => ?_)
      refine dj_callVi (t := 6) (As := []) C dw_X8_191 ⟨_, _, rfl⟩ (by decide) (dt_51 hi5) (ct_X6_isMissing l g (43 + 2 * x2.toNatClampNeg) r3.2 (dt_51 hi5)) ⟨Nat.le_of_ble_eq_true rfl, Nat.le_of_ble_eq_true rfl⟩ rfl (Nat.le_of_ble_eq_true rfl) rfl dX8_board_22 (fun r6 => ?_)
      refine dj_if_eq (tgt := 34) C dX8_board_25 (by decide) (fun c7 => ?_) (fun c7 => ?_)
      · refine dj_aload_n C 0 rfl dX8_board_34 ?_
        refine dj_getr (r := 11) (k2 := 11) C dl_X8_47 rfl dz_0 rfl dX8_board_35 ?_
        refine dj_aload_n C 0 rfl dX8_board_38 ?_
        refine dj_getr (r := 2) (k2 := 2) C dl_X8_17 rfl dz_0 rfl dX8_board_39 ?_
        refine dj_iload_n C 2 rfl dX8_board_42 ?_
        refine dj_aald C dr_51 dz_2 dX8_board_43 (fun hi8 => ?_)
        refine dj_callVi (t := 4) (As := [.ref (g.1 (43 + 2 * x2.toNatClampNeg))]) C dw_X8_197 ⟨_, _, rfl⟩ (by decide) dz_11 (ct_X4_readPlank l g (43 + 2 * x2.toNatClampNeg) r6.2 (dt_51 hi8)) ⟨Nat.le_of_ble_eq_true rfl, Nat.le_of_ble_eq_true rfl⟩ rfl (Nat.le_of_ble_eq_true rfl) rfl dX8_board_44 (fun r9 => ?_)
        refine dj_bipush C dX8_board_47 dc_bipush_m9 ?_
        refine dj_icmp_eq (tgt := 55) C dX8_board_49 (by decide) (fun c10 => ?_) (fun c10 => ?_)
        · refine dj_aload_n C 0 rfl dX8_board_55 ?_
          refine dj_getr (r := 4) (k2 := 4) C dl_X8_29 rfl dz_0 rfl dX8_board_56 ?_
          refine dj_iload_n C 1 rfl dX8_board_59 ?_
          refine dj_aald C dr_53 dz_4 dX8_board_60 (fun hi11 => ?_)
          refine dj_aload_n C 0 rfl dX8_board_61 ?_
          refine dj_getr (r := 11) (k2 := 11) C dl_X8_47 rfl dz_0 rfl dX8_board_62 ?_
          refine dj_getr (r := 3) (k2 := 14) C dl_X8_213 rfl dz_11 rfl dX8_board_65 ?_
          refine dj_callVv (t := 3) (As := [.ref (g.1 14)]) C dw_X8_214 ⟨_, _, rfl⟩ (by decide) (dt_53 hi11) (ct_X3_take l g (59 + 2 * x1.toNatClampNeg) 14 r9.2 (dt_53 hi11) dz_14) ⟨Nat.le_of_ble_eq_true rfl, Nat.le_of_ble_eq_true rfl⟩ rfl (Nat.le_of_ble_eq_true rfl) rfl dX8_board_68 (fun r12 => ?_)
          refine dj_aload_n C 0 rfl dX8_board_71 ?_
          refine dj_getr (r := 4) (k2 := 4) C dl_X8_29 rfl dz_0 rfl dX8_board_72 ?_
          refine dj_iload_n C 1 rfl dX8_board_75 ?_
          refine dj_aald C dr_53 dz_4 dX8_board_76 (fun hi13 => ?_)
          refine dj_iconst C dX8_board_77 dc_iconst_1 ?_
          refine dj_putz C dl_X8_114 dp_3_2 rfl (dt_53 hi13) (by decide) dX8_board_78 (fun S14 => ?_)
          refine dj_aload_n C 0 rfl dX8_board_81 ?_
          refine dj_getr (r := 11) (k2 := 11) C dl_X8_47 rfl dz_0 rfl dX8_board_82 ?_
          refine dj_geti C dl_X8_217 rfl dz_11 dX8_board_85 ?_
          exact dj_iret C dX8_board_88
        · refine dj_bipush C dX8_board_52 dc_bipush_m4 ?_
          exact dj_iret C dX8_board_54
      · refine dj_aload_n C 0 rfl dX8_board_28 ?_
        refine dj_iconst C dX8_board_29 dc_iconst_1 ?_
        refine dj_callVi (t := 8) (As := [.int 1]) C dw_X8_150 ⟨_, _, rfl⟩ (by decide) dz_0 (ct_X8_found l g 1 r6.2) ⟨Nat.le_of_ble_eq_true rfl, Nat.le_of_ble_eq_true rfl⟩ rfl (Nat.le_of_ble_eq_true rfl) rfl dX8_board_30 (fun r15 => ?_)
        exact dj_iret C dX8_board_33
    · refine dj_iconst C dX8_board_14 dc_iconst_m1 ?_
      exact dj_iret C dX8_board_15
