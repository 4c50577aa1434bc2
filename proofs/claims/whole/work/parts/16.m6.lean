noncomputable def fX9_isText (x0 : Int32) (S : dk_S) : Option (Int32 × dk_S) := (fX9_in x0 0 3 S).bind (fun r1 => dk_gd (decide (r1.1 = 0 ∨ r1.1 = 1)) (some (r1.1, r1.2)))
set_option maxRecDepth 100000 in
set_option maxHeartbeats 4000000 in
theorem ct_X9_isText (l : Launch) (g : dk_G) (x0 : Int32) (S : dk_S)  : dk_M l g yX9_isText cX9_isText 1 (some .boolean) 1 22 [.int x0] S (fX9_isText x0 S) dk_qi := by
  refine dk_enter "DuckWalkModel" (by decide +kernel) rfl (Nat.le_of_ble_eq_true rfl) [(0, .int x0)] rfl ?_
  intro p e s m args below meth c C
  unfold fX9_isText
  refine dj_iload_n C 0 rfl dX9_isText_0 ?_
  refine dj_iconst C dX9_isText_1 dc_iconst_0 ?_
  refine dj_iconst C dX9_isText_2 dc_iconst_3 ?_
  refine dj_callSi (As := [.int x0, .int 0, .int 3]) C dw_X9_80 (ct_X9_in l g x0 0 3 S) ⟨Nat.le_of_ble_eq_true rfl, Nat.le_of_ble_eq_true rfl⟩ rfl (Nat.le_of_ble_eq_true rfl) rfl dX9_isText_3 (fun r1 => ?_)
  exact dj_zretg C dX9_isText_6
noncomputable def fX9_text_L34 (x1 : Int32) (x2 : Int32) : Nat → Int32 → dk_S → Option (Int32 × dk_S)
  | 0, _, _ => none
  | n + 1, x3, S => if 80 ≤ x3 then some (x2, S) else dk_gd (dk_in ((80 * x1) + x3) 320) (dk_lt (dk_si S 88 ((80 * x1) + x3).toNatClampNeg (vp_nar .byte 32)) (fun S7 => fX9_text_L34 x1 x2 n (x3 + 1) S7))
noncomputable def fX9_text (x1 : Int32) (x2 : Int32) (S : dk_S) : Option (Int32 × dk_S) := (fX9_isText x1 S).bind (fun r1 => if r1.1 = 0 then some ((-1), r1.2) else if x2 ≤ 80 then if 0 ≤ x2 then dk_gd (dk_in x1 4) (dk_lt (dk_si r1.2 87 x1.toNatClampNeg x2) (fun S5 => fX9_text_L34 x1 x2 dk_FU 0 S5)) else (fX9_notes 5 r1.2).bind (fun r8 => some (r8.1, r8.2)) else some ((-1), r1.2))
set_option maxRecDepth 100000 in
set_option maxHeartbeats 4000000 in
theorem jX9_text_L34 {p : Program} {l : Launch} {e : Env} {R : Room} {s : State} {m : MethodId} {args : Array Value} {below : List Frame} {meth : Method} {c : Code} {g : dk_G} (C : dk_C p l e R s m args below meth c g cX9_text "DuckWalkModel" 4 (some .int)) (hR : R = { frames := 2, cells := 0, slots := 0, locals := 42 }) (x1 : Int32) (x2 : Int32)   : ∀ (n : Nat) (x3 : Int32) (S : dk_S), dk_J p l e R s m args below meth c g 4 dk_qi 34 [(0, .ref (g.1 82)), (1, .int x1), (2, .int x2), (3, .int x3)] [] S (fX9_text_L34 x1 x2 n x3 S) some := by
  subst hR
  intro n
  induction n with
  | zero =>
    intro x3 S
    exact dj_none
  | succ n ih =>
    intro x3 S
    rw [fX9_text_L34]
    refine dj_iload_n C 3 rfl dX9_text_34 ?_
    refine dj_bipush C dX9_text_35 dc_bipush_80 ?_
    refine dj_icmp_ge (tgt := 59) C dX9_text_37 (by decide) (fun c6 => ?_) (fun c6 => ?_)
    · refine dj_iload_n C 2 rfl dX9_text_59 ?_
      exact dj_iret C dX9_text_60
    · refine dj_aload_n C 0 rfl dX9_text_40 ?_
      refine dj_getr (r := 6) (k2 := 88) C dl_X9_25 rfl dz_82 rfl dX9_text_41 ?_
      refine dj_bipush C dX9_text_44 dc_bipush_80 ?_
      refine dj_iload_n C 1 rfl dX9_text_46 ?_
      refine dj_imul C dX9_text_47 ?_
      refine dj_iload_n C 3 rfl dX9_text_48 ?_
      refine dj_iadd C dX9_text_49 ?_
      refine dj_bipush C dX9_text_50 dc_bipush_32 ?_
      refine dj_bast (n := 320) C dz_88 (by decide) dX9_text_52 (fun S7 => ?_)
      refine dj_iinc (lv2 := [(0, .ref (g.1 82)), (1, .int x1), (2, .int x2), (3, .int (x3 + 1))]) C 3 rfl [1, 2, 3, 0] dX9_text_53 dc_iconst_1 (by decide) rfl ?_
      refine dj_goto (tgt := 34) C dX9_text_56 (by decide) ?_
      exact ih (x3 + 1) S7
set_option maxRecDepth 100000 in
set_option maxHeartbeats 4000000 in
theorem ct_X9_text (l : Launch) (g : dk_G) (x1 : Int32) (x2 : Int32) (S : dk_S)  : dk_M l g yX9_text cX9_text 4 (some .int) 2 42 [.ref (g.1 82), .int x1, .int x2] S (fX9_text x1 x2 S) dk_qi := by
  refine dk_enter "DuckWalkModel" (by decide +kernel) rfl (Nat.le_of_ble_eq_true rfl) [(0, .ref (g.1 82)), (1, .int x1), (2, .int x2)] rfl ?_
  intro p e s m args below meth c C
  unfold fX9_text
  refine dj_iload_n C 1 rfl dX9_text_0 ?_
  refine dj_callSi (As := [.int x1]) C dw_X9_105 (ct_X9_isText l g x1 S) ⟨Nat.le_of_ble_eq_true rfl, Nat.le_of_ble_eq_true rfl⟩ rfl (Nat.le_of_ble_eq_true rfl) rfl dX9_text_1 (fun r1 => ?_)
  refine dj_if_eq (tgt := 13) C dX9_text_4 (by decide) (fun c2 => ?_) (fun c2 => ?_)
  · refine dj_iconst C dX9_text_13 dc_iconst_m1 ?_
    exact dj_iret C dX9_text_14
  · refine dj_iload_n C 2 rfl dX9_text_7 ?_
    refine dj_bipush C dX9_text_8 dc_bipush_80 ?_
    refine dj_icmp_le (tgt := 15) C dX9_text_10 (by decide) (fun c3 => ?_) (fun c3 => ?_)
    · refine dj_iload_n C 2 rfl dX9_text_15 ?_
      refine dj_if_ge (tgt := 25) C dX9_text_16 (by decide) (fun c4 => ?_) (fun c4 => ?_)
      · refine dj_aload_n C 0 rfl dX9_text_25 ?_
        refine dj_getr (r := 5) (k2 := 87) C dl_X9_22 rfl dz_82 rfl dX9_text_26 ?_
        refine dj_iload_n C 1 rfl dX9_text_29 ?_
        refine dj_iload_n C 2 rfl dX9_text_30 ?_
        refine dj_iast (n := 4) C dz_87 (by decide) dX9_text_31 (fun S5 => ?_)
        refine dj_iconst C dX9_text_32 dc_iconst_0 ?_
        refine dj_istore_n (lv2 := [(0, .ref (g.1 82)), (1, .int x1), (2, .int x2), (3, .int 0)]) C [1, 2, 3, 0] dX9_text_33 rfl (by decide) rfl ?_
        refine jX9_text_L34 C rfl x1 x2 dk_FU 0 S5
      · refine dj_aload_n C 0 rfl dX9_text_19 ?_
        refine dj_iconst C dX9_text_20 dc_iconst_5 ?_
        refine dj_callVi (t := 9) (As := [.int 5]) C dw_X9_94 ⟨_, _, rfl⟩ (by decide) dz_82 (ct_X9_notes l g 5 r1.2) ⟨Nat.le_of_ble_eq_true rfl, Nat.le_of_ble_eq_true rfl⟩ rfl (Nat.le_of_ble_eq_true rfl) rfl dX9_text_21 (fun r8 => ?_)
        exact dj_iret C dX9_text_24
    · refine dj_iconst C dX9_text_13 dc_iconst_m1 ?_
      exact dj_iret C dX9_text_14
noncomputable def fX9_put (x1 : Int32) (x2 : Int32) (x3 : Int32) (S : dk_S) : Option (Int32 × dk_S) := (fX9_isText x1 S).bind (fun r1 => if r1.1 = 0 then some ((-1), r1.2) else dk_gd (dk_in x1 4) (if 0 ≤ (r1.2.1 87 x1.toNatClampNeg) then dk_gd (dk_in x1 4) ((fX9_in x2 0 ((r1.2.1 87 x1.toNatClampNeg) - 1) r1.2).bind (fun r4 => if r4.1 = 0 then (fX9_notes 2 r4.2).bind (fun r8 => some (r8.1, r8.2)) else dk_gd (dk_in ((80 * x1) + x2) 320) (dk_lt (r4.2.1 88 ((80 * x1) + x2).toNatClampNeg) (fun y6 : Int32 => dk_gd (dk_in ((80 * x1) + x2) 320) (dk_lt (dk_si r4.2 88 ((80 * x1) + x2).toNatClampNeg (vp_nar .byte x3.toInt8.toInt32)) (fun S7 => some (1000 + y6, S7))))))) else (fX9_notes 1 r1.2).bind (fun r9 => some (r9.1, r9.2))))
set_option maxRecDepth 100000 in
set_option maxHeartbeats 4000000 in
theorem ct_X9_put (l : Launch) (g : dk_G) (x1 : Int32) (x2 : Int32) (x3 : Int32) (S : dk_S)  : dk_M l g yX9_put cX9_put 5 (some .int) 2 42 [.ref (g.1 82), .int x1, .int x2, .int x3] S (fX9_put x1 x2 x3 S) dk_qi := by
  refine dk_enter "DuckWalkModel" (by decide +kernel) rfl (Nat.le_of_ble_eq_true rfl) [(0, .ref (g.1 82)), (1, .int x1), (2, .int x2), (3, .int x3)] rfl ?_
  intro p e s m args below meth c C
  unfold fX9_put
  refine dj_iload_n C 1 rfl dX9_put_0 ?_
  refine dj_callSi (As := [.int x1]) C dw_X9_105 (ct_X9_isText l g x1 S) ⟨Nat.le_of_ble_eq_true rfl, Nat.le_of_ble_eq_true rfl⟩ rfl (Nat.le_of_ble_eq_true rfl) rfl dX9_put_1 (fun r1 => ?_)
  refine dj_if_ne (tgt := 9) C dX9_put_4 (by decide) (fun c2 => ?_) (fun c2 => ?_)
  · refine dj_aload_n C 0 rfl dX9_put_9 ?_
    refine dj_getr (r := 5) (k2 := 87) C dl_X9_22 rfl dz_82 rfl dX9_put_10 ?_
    refine dj_iload_n C 1 rfl dX9_put_13 ?_
    refine dj_iald (n := 4) C dz_87 (by decide) dX9_put_14 ?_
    refine dj_if_ge (tgt := 24) C dX9_put_15 (by decide) (fun c3 => ?_) (fun c3 => ?_)
    · refine dj_iload_n C 2 rfl dX9_put_24 ?_
      refine dj_iconst C dX9_put_25 dc_iconst_0 ?_
      refine dj_aload_n C 0 rfl dX9_put_26 ?_
      refine dj_getr (r := 5) (k2 := 87) C dl_X9_22 rfl dz_82 rfl dX9_put_27 ?_
      refine dj_iload_n C 1 rfl dX9_put_30 ?_
      refine dj_iald (n := 4) C dz_87 (by decide) dX9_put_31 ?_
      refine dj_iconst C dX9_put_32 dc_iconst_1 ?_
      refine dj_isub C dX9_put_33 ?_
      refine dj_callSi (As := [.int x2, .int 0, .int ((r1.2.1 87 x1.toNatClampNeg) - 1)]) C dw_X9_80 (ct_X9_in l g x2 0 ((r1.2.1 87 x1.toNatClampNeg) - 1) r1.2) ⟨Nat.le_of_ble_eq_true rfl, Nat.le_of_ble_eq_true rfl⟩ rfl (Nat.le_of_ble_eq_true rfl) rfl dX9_put_34 (fun r4 => ?_)
      refine dj_if_ne (tgt := 46) C dX9_put_37 (by decide) (fun c5 => ?_) (fun c5 => ?_)
      · refine dj_aload_n C 0 rfl dX9_put_46 ?_
        refine dj_getr (r := 6) (k2 := 88) C dl_X9_25 rfl dz_82 rfl dX9_put_47 ?_
        refine dj_bipush C dX9_put_50 dc_bipush_80 ?_
        refine dj_iload_n C 1 rfl dX9_put_52 ?_
        refine dj_imul C dX9_put_53 ?_
        refine dj_iload_n C 2 rfl dX9_put_54 ?_
        refine dj_iadd C dX9_put_55 ?_
        refine dj_bald (n := 320) C dz_88 (by decide) dX9_put_56 ?_
        refine dj_lti (fun y6 => ?_)
        refine dj_istore (lv2 := [(0, .ref (g.1 82)), (1, .int x1), (2, .int x2), (3, .int x3), (4, .int y6)]) C [1, 2, 3, 4, 0] dX9_put_57 (by decide) rfl ?_
        refine dj_aload_n C 0 rfl dX9_put_59 ?_
        refine dj_getr (r := 6) (k2 := 88) C dl_X9_25 rfl dz_82 rfl dX9_put_60 ?_
        refine dj_bipush C dX9_put_63 dc_bipush_80 ?_
        refine dj_iload_n C 1 rfl dX9_put_65 ?_
        refine dj_imul C dX9_put_66 ?_
        refine dj_iload_n C 2 rfl dX9_put_67 ?_
        refine dj_iadd C dX9_put_68 ?_
        refine dj_iload_n C 3 rfl dX9_put_69 ?_
        refine dj_i2b C dX9_put_70 ?_
        refine dj_bast (n := 320) C dz_88 (by decide) dX9_put_71 (fun S7 => ?_)
        refine dj_sipush C dX9_put_72 dc_sipush_1000 ?_
        refine dj_iload C 4 rfl dX9_put_75 ?_
        refine dj_iadd C dX9_put_77 ?_
        exact dj_iret C dX9_put_78
      · refine dj_aload_n C 0 rfl dX9_put_40 ?_
        refine dj_iconst C dX9_put_41 dc_iconst_2 ?_
        refine dj_callVi (t := 9) (As := [.int 2]) C dw_X9_94 ⟨_, _, rfl⟩ (by decide) dz_82 (ct_X9_notes l g 2 r4.2) ⟨Nat.le_of_ble_eq_true rfl, Nat.le_of_ble_eq_true rfl⟩ rfl (Nat.le_of_ble_eq_true rfl) rfl dX9_put_42 (fun r8 => ?_)
        exact dj_iret C dX9_put_45
    · refine dj_aload_n C 0 rfl dX9_put_18 ?_
      refine dj_iconst C dX9_put_19 dc_iconst_1 ?_
      refine dj_callVi (t := 9) (As := [.int 1]) C dw_X9_94 ⟨_, _, rfl⟩ (by decide) dz_82 (ct_X9_notes l g 1 r1.2) ⟨Nat.le_of_ble_eq_true rfl, Nat.le_of_ble_eq_true rfl⟩ rfl (Nat.le_of_ble_eq_true rfl) rfl dX9_put_20 (fun r9 => ?_)
      exact dj_iret C dX9_put_23
  · refine dj_iconst C dX9_put_7 dc_iconst_m1 ?_
    exact dj_iret C dX9_put_8
noncomputable def fX9_byteAt (x1 : Int32) (x2 : Int32) (S : dk_S) : Option (Int32 × dk_S) := dk_gd (dk_in x1 4) (if (S.1 87 x1.toNatClampNeg) ≤ x2 then some (0, S) else dk_gd (dk_in ((80 * x1) + x2) 320) (some (S.1 88 ((80 * x1) + x2).toNatClampNeg, S)))
set_option maxRecDepth 100000 in
set_option maxHeartbeats 4000000 in
theorem ct_X9_byteAt (l : Launch) (g : dk_G) (x1 : Int32) (x2 : Int32) (S : dk_S)  : dk_M l g yX9_byteAt cX9_byteAt 3 (some .int) 0 0 [.ref (g.1 82), .int x1, .int x2] S (fX9_byteAt x1 x2 S) dk_qi := by
  refine dk_enter "DuckWalkModel" (by decide +kernel) rfl (Nat.le_of_ble_eq_true rfl) [(0, .ref (g.1 82)), (1, .int x1), (2, .int x2)] rfl ?_
  intro p e s m args below meth c C
  unfold fX9_byteAt
  refine dj_iload_n C 2 rfl dX9_byteAt_0 ?_
  refine dj_aload_n C 0 rfl dX9_byteAt_1 ?_
  refine dj_getr (r := 5) (k2 := 87) C dl_X9_22 rfl dz_82 rfl dX9_byteAt_2 ?_
  refine dj_iload_n C 1 rfl dX9_byteAt_5 ?_
  refine dj_iald (n := 4) C dz_87 (by decide) dX9_byteAt_6 ?_
  refine dj_icmp_ge (tgt := 24) C dX9_byteAt_7 (by decide) (fun c1 => ?_) (fun c1 => ?_)
  · refine dj_iconst C dX9_byteAt_24 dc_iconst_0 ?_
    exact dj_iret C dX9_byteAt_25
  · refine dj_aload_n C 0 rfl dX9_byteAt_10 ?_
    refine dj_getr (r := 6) (k2 := 88) C dl_X9_25 rfl dz_82 rfl dX9_byteAt_11 ?_
    refine dj_bipush C dX9_byteAt_14 dc_bipush_80 ?_
    refine dj_iload_n C 1 rfl dX9_byteAt_16 ?_
    refine dj_imul C dX9_byteAt_17 ?_
    refine dj_iload_n C 2 rfl dX9_byteAt_18 ?_
    refine dj_iadd C dX9_byteAt_19 ?_
    refine dj_bald (n := 320) C dz_88 (by decide) dX9_byteAt_20 ?_
    refine dj_goto (tgt := 25) C dX9_byteAt_21 (by decide) ?_
    exact dj_iret C dX9_byteAt_25
noncomputable def fX9_figure (x1 : Int32) (x2 : Int32) (S : dk_S) : Option (Int32 × dk_S) := (fX9_byteAt x1 (S.1 82 14) S).bind (fun r1 => dk_lt (dk_si r1.2 82 15 (r1.1 - 48)) (fun S2 => (fX9_in (S2.1 82 15) x2 9 S2).bind (fun r3 => if r3.1 = 0 then dk_lt (dk_si r3.2 82 14 ((r3.2.1 82 14) + 0)) (fun S5 => dk_gd (decide (r3.1 = 0 ∨ r3.1 = 1)) (some (r3.1, S5))) else dk_lt (dk_si r3.2 82 14 ((r3.2.1 82 14) + 1)) (fun S6 => dk_gd (decide (r3.1 = 0 ∨ r3.1 = 1)) (some (r3.1, S6))))))
set_option maxRecDepth 100000 in
set_option maxHeartbeats 4000000 in
theorem ct_X9_figure (l : Launch) (g : dk_G) (x1 : Int32) (x2 : Int32) (S : dk_S)  : dk_M l g yX9_figure cX9_figure 4 (some .boolean) 1 22 [.ref (g.1 82), .int x1, .int x2] S (fX9_figure x1 x2 S) dk_qi := by
  refine dk_enter "DuckWalkModel" (by decide +kernel) rfl (Nat.le_of_ble_eq_true rfl) [(0, .ref (g.1 82)), (1, .int x1), (2, .int x2)] rfl ?_
  intro p e s m args below meth c C
  unfold fX9_figure
  refine dj_aload_n C 0 rfl dX9_figure_0 ?_
  refine dj_aload_n C 0 rfl dX9_figure_1 ?_
  refine dj_iload_n C 1 rfl dX9_figure_2 ?_
  refine dj_aload_n C 0 rfl dX9_figure_3 ?_
  refine dj_geti C dl_X9_108 rfl dz_82 dX9_figure_4 ?_
  refine dj_callVi (t := 9) (As := [.int x1, .int (S.1 82 14)]) C dw_X9_111 ⟨_, _, rfl⟩ (by decide) dz_82 (ct_X9_byteAt l g x1 (S.1 82 14) S) ⟨Nat.le_of_ble_eq_true rfl, Nat.le_of_ble_eq_true rfl⟩ rfl (Nat.le_of_ble_eq_true rfl) rfl dX9_figure_7 (fun r1 => ?_)
  refine dj_bipush C dX9_figure_10 dc_bipush_48 ?_
  refine dj_isub C dX9_figure_12 ?_
  refine dj_puti C dl_X9_114 dp_9_15 rfl dz_82 dX9_figure_13 (fun S2 => ?_)
  refine dj_aload_n C 0 rfl dX9_figure_16 ?_
  refine dj_geti C dl_X9_114 rfl dz_82 dX9_figure_17 ?_
  refine dj_iload_n C 2 rfl dX9_figure_20 ?_
  refine dj_bipush C dX9_figure_21 dc_bipush_9 ?_
  refine dj_callSi (As := [.int (S2.1 82 15), .int x2, .int 9]) C dw_X9_80 (ct_X9_in l g (S2.1 82 15) x2 9 S2) ⟨Nat.le_of_ble_eq_true rfl, Nat.le_of_ble_eq_true rfl⟩ rfl (Nat.le_of_ble_eq_true rfl) rfl dX9_figure_23 (fun r3 => ?_)
  refine dj_istore_n (lv2 := [(0, .ref (g.1 82)), (3, .int r3.1)]) C [1, 0] dX9_figure_26 rfl (by decide) rfl ?_
  refine dj_aload_n C 0 rfl dX9_figure_27 ?_
  refine dj_dup C dX9_figure_28 rfl ?_
  refine dj_geti C dl_X9_108 rfl dz_82 dX9_figure_29 ?_
  refine dj_iload_n C 1 rfl dX9_figure_32 ?_
  refine dj_if_eq (tgt := 40) C dX9_figure_33 (by decide) (fun c4 => ?_) (fun c4 => ?_)
  · refine dj_iconst C dX9_figure_40 dc_iconst_0 ?_
    refine dj_iadd C dX9_figure_41 ?_
    refine dj_puti C dl_X9_108 dp_9_14 rfl dz_82 dX9_figure_42 (fun S5 => ?_)
    refine dj_iload_n C 1 rfl dX9_figure_45 ?_
    exact dj_zretg C dX9_figure_46
  · refine dj_iconst C dX9_figure_36 dc_iconst_1 ?_
    refine dj_goto (tgt := 41) C dX9_figure_37 (by decide) ?_
    refine dj_iadd C dX9_figure_41 ?_
    refine dj_puti C dl_X9_108 dp_9_14 rfl dz_82 dX9_figure_42 (fun S6 => ?_)
    refine dj_iload_n C 1 rfl dX9_figure_45 ?_
    exact dj_zretg C dX9_figure_46
noncomputable def fX9_itemOf (x0 : Int32) (S : dk_S) : Option (Int32 × dk_S) := if x0 = 104 then some (2, S) else if x0 = 105 then some (4, S) else if x0 = 106 then some (5, S) else if x0 = 108 then some (3, S) else if x0 = 114 then some (1, S) else if x0 = 119 then some (0, S) else some ((-9), S)
set_option maxRecDepth 100000 in
set_option maxHeartbeats 4000000 in
theorem ct_X9_itemOf (l : Launch) (g : dk_G) (x0 : Int32) (S : dk_S)  : dk_M l g yX9_itemOf cX9_itemOf 1 (some .int) 0 0 [.int x0] S (fX9_itemOf x0 S) dk_qi := by
  refine dk_enter "DuckWalkModel" (by decide +kernel) rfl (Nat.le_of_ble_eq_true rfl) [(0, .int x0)] rfl ?_
  intro p e s m args below meth c C
  unfold fX9_itemOf
  refine dj_iload_n C 0 rfl dX9_itemOf_0 ?_
  refine dj_ite (fun h1 => ?_) (fun h1 => ?_)
  · refine dj_tsw_in (off := 83) (tgt := 84) C dX9_itemOf_1 (by rw [h1]; decide) (by rw [h1]; decide) (by rw [h1]; rfl) (by decide) ?_
    refine dj_iconst C dX9_itemOf_84 dc_iconst_2 ?_
    exact dj_iret C dX9_itemOf_85
  · refine dj_ite (fun h2 => ?_) (fun h2 => ?_)
    · refine dj_tsw_in (off := 87) (tgt := 88) C dX9_itemOf_1 (by rw [h2]; decide) (by rw [h2]; decide) (by rw [h2]; rfl) (by decide) ?_
      refine dj_iconst C dX9_itemOf_88 dc_iconst_4 ?_
      exact dj_iret C dX9_itemOf_89
    · refine dj_ite (fun h3 => ?_) (fun h3 => ?_)
      · refine dj_tsw_in (off := 89) (tgt := 90) C dX9_itemOf_1 (by rw [h3]; decide) (by rw [h3]; decide) (by rw [h3]; rfl) (by decide) ?_
        refine dj_iconst C dX9_itemOf_90 dc_iconst_5 ?_
        exact dj_iret C dX9_itemOf_91
      · refine dj_ite (fun h4 => ?_) (fun h4 => ?_)
        · refine dj_tsw_in (off := 85) (tgt := 86) C dX9_itemOf_1 (by rw [h4]; decide) (by rw [h4]; decide) (by rw [h4]; rfl) (by decide) ?_
          refine dj_iconst C dX9_itemOf_86 dc_iconst_3 ?_
          exact dj_iret C dX9_itemOf_87
        · refine dj_ite (fun h5 => ?_) (fun h5 => ?_)
          · refine dj_tsw_in (off := 81) (tgt := 82) C dX9_itemOf_1 (by rw [h5]; decide) (by rw [h5]; decide) (by rw [h5]; rfl) (by decide) ?_
            refine dj_iconst C dX9_itemOf_82 dc_iconst_1 ?_
            exact dj_iret C dX9_itemOf_83
          · refine dj_ite (fun h6 => ?_) (fun h6 => ?_)
            · refine dj_tsw_in (off := 79) (tgt := 80) C dX9_itemOf_1 (by rw [h6]; decide) (by rw [h6]; decide) (by rw [h6]; rfl) (by decide) ?_
              refine dj_iconst C dX9_itemOf_80 dc_iconst_0 ?_
              exact dj_iret C dX9_itemOf_81
            · refine dj_tsw_d (tgt := 92) C dX9_itemOf_1 ?_ (by decide) ?_
              · have e104 : x0.toInt ≠ 104 := fun e => h1 (dk_teq e (by decide))
                have e105 : x0.toInt ≠ 105 := fun e => h2 (dk_teq e (by decide))
                have e106 : x0.toInt ≠ 106 := fun e => h3 (dk_teq e (by decide))
                have e108 : x0.toInt ≠ 108 := fun e => h4 (dk_teq e (by decide))
                have e114 : x0.toInt ≠ 114 := fun e => h5 (dk_teq e (by decide))
                have e119 : x0.toInt ≠ 119 := fun e => h6 (dk_teq e (by decide))
                rcases (show x0.toInt < 104 ∨ 119 < x0.toInt ∨ x0.toInt = 107 ∨ x0.toInt = 109 ∨ x0.toInt = 110 ∨ x0.toInt = 111 ∨ x0.toInt = 112 ∨ x0.toInt = 113 ∨ x0.toInt = 115 ∨ x0.toInt = 116 ∨ x0.toInt = 117 ∨ x0.toInt = 118 by omega) with h | h | h | h | h | h | h | h | h | h | h | h
                · exact Or.inl h
                · exact Or.inr (Or.inl h)
                · exact Or.inr (Or.inr (by rw [h]; rfl))
                · exact Or.inr (Or.inr (by rw [h]; rfl))
                · exact Or.inr (Or.inr (by rw [h]; rfl))
                · exact Or.inr (Or.inr (by rw [h]; rfl))
                · exact Or.inr (Or.inr (by rw [h]; rfl))
                · exact Or.inr (Or.inr (by rw [h]; rfl))
                · exact Or.inr (Or.inr (by rw [h]; rfl))
                · exact Or.inr (Or.inr (by rw [h]; rfl))
                · exact Or.inr (Or.inr (by rw [h]; rfl))
                · exact Or.inr (Or.inr (by rw [h]; rfl))
              · refine dj_bipush C dX9_itemOf_92 dc_bipush_m9 ?_
                exact dj_iret C dX9_itemOf_94
noncomputable def fX9_readsSize (x1 : Int32) (S : dk_S) : Option (Int32 × dk_S) := (fX9_byteAt x1 (S.1 82 14) S).bind (fun r1 => (fX9_itemOf r1.1 r1.2).bind (fun r2 => if r2.1 = (-9) then some (0, r2.2) else dk_lt (dk_si r2.2 82 14 ((r2.2.1 82 14) + 1)) (fun S4 => dk_lt (fun t5 : dk_S => (dk_lt (if 4 ≤ r2.1 then 0 else 1) (fun y7 : Int32 => (fX9_figure x1 y7 t5).bind (fun r8 => if r8.1 = 0 then some (0, r8.2) else dk_gd (dk_in r2.1 7) (dk_lt (dk_si r8.2 93 r2.1.toNatClampNeg (r8.2.1 82 15)) (fun S10 => dk_lt (dk_si S10 93 6 ((S10.1 93 6) &&& ((1 <<< (r2.1 &&& 31)) ^^^ (-1)))) (fun S11 => some (1, S11)))))) : Option (Int32 × dk_S))) (fun k6 => if 4 ≤ r2.1 then k6 S4 else (fX9_byteAt x1 (S4.1 82 14) S4).bind (fun r14 => if r14.1 = 63 then dk_lt (dk_si r14.2 82 14 ((r14.2.1 82 14) + 1)) (fun S16 => dk_gd (dk_in r2.1 7) (dk_lt (dk_si S16 93 r2.1.toNatClampNeg 5) (fun S17 => dk_lt (dk_si S17 93 6 ((S17.1 93 6) ||| (1 <<< (r2.1 &&& 31)))) (fun S18 => some (1, S18))))) else k6 r14.2)))))
set_option maxRecDepth 100000 in
set_option maxHeartbeats 4000000 in
theorem ct_X9_readsSize (l : Launch) (g : dk_G) (x1 : Int32) (S : dk_S)  : dk_M l g yX9_readsSize cX9_readsSize 3 (some .boolean) 2 45 [.ref (g.1 82), .int x1] S (fX9_readsSize x1 S) dk_qi := by
  refine dk_enter "DuckWalkModel" (by decide +kernel) rfl (Nat.le_of_ble_eq_true rfl) [(0, .ref (g.1 82)), (1, .int x1)] rfl ?_
  intro p e s m args below meth c C
  unfold fX9_readsSize
  refine dj_aload_n C 0 rfl dX9_readsSize_0 ?_
  refine dj_iload_n C 1 rfl dX9_readsSize_1 ?_
  refine dj_aload_n C 0 rfl dX9_readsSize_2 ?_
  refine dj_geti C dl_X9_108 rfl dz_82 dX9_readsSize_3 ?_
  refine dj_callVi (t := 9) (As := [.int x1, .int (S.1 82 14)]) C dw_X9_111 ⟨_, _, rfl⟩ (by decide) dz_82 (ct_X9_byteAt l g x1 (S.1 82 14) S) ⟨Nat.le_of_ble_eq_true rfl, Nat.le_of_ble_eq_true rfl⟩ rfl (Nat.le_of_ble_eq_true rfl) rfl dX9_readsSize_6 (fun r1 => ?_)
  refine dj_callSi (As := [.int r1.1]) C dw_X9_117 (ct_X9_itemOf l g r1.1 r1.2) ⟨Nat.le_of_ble_eq_true rfl, Nat.le_of_ble_eq_true rfl⟩ rfl (Nat.le_of_ble_eq_true rfl) rfl dX9_readsSize_9 (fun r2 => ?_)
  refine dj_istore_n (lv2 := [(0, .ref (g.1 82)), (1, .int x1), (2, .int r2.1)]) C [1, 2, 0] dX9_readsSize_12 rfl (by decide) rfl ?_
  refine dj_iload_n C 2 rfl dX9_readsSize_13 ?_
  refine dj_bipush C dX9_readsSize_14 dc_bipush_m9 ?_
  refine dj_icmp_ne (tgt := 21) C dX9_readsSize_16 (by decide) (fun c3 => ?_) (fun c3 => ?_)
  · refine dj_aload_n C 0 rfl dX9_readsSize_21 ?_
    refine dj_dup C dX9_readsSize_22 rfl ?_
    refine dj_geti C dl_X9_108 rfl dz_82 dX9_readsSize_23 ?_
    refine dj_iconst C dX9_readsSize_26 dc_iconst_1 ?_
    refine dj_iadd C dX9_readsSize_27 ?_
    refine dj_puti C dl_X9_108 dp_9_14 rfl dz_82 dX9_readsSize_28 (fun S4 => ?_)
    refine dj_iload_n C 2 rfl dX9_readsSize_31 ?_
    refine dj_iconst C dX9_readsSize_32 dc_iconst_4 ?_
    refine dj_join 82 (fun t5 : dk_S => [(0, .ref (g.1 82)), (1, .int x1), (2, .int r2.1)]) (fun t5 : dk_S => []) (fun t5 : dk_S => t5) (fun t5 => ?_) (fun k6 hk6 => ?_)
    · refine dj_aload_n C 0 rfl dX9_readsSize_82 ?_
      refine dj_iload_n C 1 rfl dX9_readsSize_83 ?_
      refine dj_iload_n C 2 rfl dX9_readsSize_84 ?_
      refine dj_iconst C dX9_readsSize_85 dc_iconst_4 ?_
      refine dj_dia 94 [.int x1, .ref (g.1 82)] (fun y7 => ?_) (fun hd7 => ?_)
      · refine dj_callVi (t := 9) (As := [.int x1, .int y7]) C dw_X9_120 ⟨_, _, rfl⟩ (by decide) dz_82 (ct_X9_figure l g x1 y7 t5) ⟨Nat.le_of_ble_eq_true rfl, Nat.le_of_ble_eq_true rfl⟩ rfl (Nat.le_of_ble_eq_true rfl) rfl dX9_readsSize_94 (fun r8 => ?_)
        refine dj_if_ne (tgt := 102) C dX9_readsSize_97 (by decide) (fun c9 => ?_) (fun c9 => ?_)
        · refine dj_aload_n C 0 rfl dX9_readsSize_102 ?_
          refine dj_getr (r := 11) (k2 := 93) C dl_X9_42 rfl dz_82 rfl dX9_readsSize_103 ?_
          refine dj_iload_n C 2 rfl dX9_readsSize_106 ?_
          refine dj_aload_n C 0 rfl dX9_readsSize_107 ?_
          refine dj_geti C dl_X9_114 rfl dz_82 dX9_readsSize_108 ?_
          refine dj_iast (n := 7) C dz_93 (by decide) dX9_readsSize_111 (fun S10 => ?_)
          refine dj_aload_n C 0 rfl dX9_readsSize_112 ?_
          refine dj_getr (r := 11) (k2 := 93) C dl_X9_42 rfl dz_82 rfl dX9_readsSize_113 ?_
          refine dj_bipush C dX9_readsSize_116 dc_bipush_6 ?_
          refine dj_dup2 C dX9_readsSize_118 rfl rfl ?_
          refine dj_ialdn (n := 7) (j := 6) C dz_93 (by decide) (by decide) (by decide) dX9_readsSize_119 ?_
          refine dj_iconst C dX9_readsSize_120 dc_iconst_1 ?_
          refine dj_iload_n C 2 rfl dX9_readsSize_121 ?_
          refine dj_ishl C dX9_readsSize_122 ?_
          refine dj_iconst C dX9_readsSize_123 dc_iconst_m1 ?_
          refine dj_ixor C dX9_readsSize_124 ?_
          refine dj_iand C dX9_readsSize_125 ?_
          refine dj_iastn (n := 7) (j := 6) C dz_93 (by decide) (by decide) (by decide) dX9_readsSize_126 (fun S11 => ?_)
          refine dj_iconst C dX9_readsSize_127 dc_iconst_1 ?_
          exact dj_zret C rfl dX9_readsSize_128
        · refine dj_iconst C dX9_readsSize_100 dc_iconst_0 ?_
          exact dj_zret C rfl dX9_readsSize_101
      · refine dj_ltite ?_
        refine dj_icmp_ge (tgt := 93) C dX9_readsSize_86 (by decide) (fun c12 => ?_) (fun c12 => ?_)
        · refine dj_iconst C dX9_readsSize_93 dc_iconst_0 ?_
          exact hd7 _
        · refine dj_iconst C dX9_readsSize_89 dc_iconst_1 ?_
          refine dj_goto (tgt := 94) C dX9_readsSize_90 (by decide) ?_
          exact hd7 _
    · refine dj_icmp_ge (tgt := 82) C dX9_readsSize_33 (by decide) (fun c13 => ?_) (fun c13 => ?_)
      · exact hk6 S4
      · refine dj_aload_n C 0 rfl dX9_readsSize_36 ?_
        refine dj_iload_n C 1 rfl dX9_readsSize_37 ?_
        refine dj_aload_n C 0 rfl dX9_readsSize_38 ?_
        refine dj_geti C dl_X9_108 rfl dz_82 dX9_readsSize_39 ?_
        refine dj_callVi (t := 9) (As := [.int x1, .int (S4.1 82 14)]) C dw_X9_111 ⟨_, _, rfl⟩ (by decide) dz_82 (ct_X9_byteAt l g x1 (S4.1 82 14) S4) ⟨Nat.le_of_ble_eq_true rfl, Nat.le_of_ble_eq_true rfl⟩ rfl (Nat.le_of_ble_eq_true rfl) rfl dX9_readsSize_42 (fun r14 => ?_)
        refine dj_bipush C dX9_readsSize_45 dc_bipush_63 ?_
        refine dj_icmp_ne (tgt := 82) C dX9_readsSize_47 (by decide) (fun c15 => ?_) (fun c15 => ?_)
        · exact hk6 r14.2
        · refine dj_aload_n C 0 rfl dX9_readsSize_50 ?_
          refine dj_dup C dX9_readsSize_51 rfl ?_
          refine dj_geti C dl_X9_108 rfl dz_82 dX9_readsSize_52 ?_
          refine dj_iconst C dX9_readsSize_55 dc_iconst_1 ?_
          refine dj_iadd C dX9_readsSize_56 ?_
          refine dj_puti C dl_X9_108 dp_9_14 rfl dz_82 dX9_readsSize_57 (fun S16 => ?_)
          refine dj_aload_n C 0 rfl dX9_readsSize_60 ?_
          refine dj_getr (r := 11) (k2 := 93) C dl_X9_42 rfl dz_82 rfl dX9_readsSize_61 ?_
          refine dj_iload_n C 2 rfl dX9_readsSize_64 ?_
          refine dj_iconst C dX9_readsSize_65 dc_iconst_5 ?_
          refine dj_iast (n := 7) C dz_93 (by decide) dX9_readsSize_66 (fun S17 => ?_)
          refine dj_aload_n C 0 rfl dX9_readsSize_67 ?_
          refine dj_getr (r := 11) (k2 := 93) C dl_X9_42 rfl dz_82 rfl dX9_readsSize_68 ?_
          refine dj_bipush C dX9_readsSize_71 dc_bipush_6 ?_
          refine dj_dup2 C dX9_readsSize_73 rfl rfl ?_
          refine dj_ialdn (n := 7) (j := 6) C dz_93 (by decide) (by decide) (by decide) dX9_readsSize_74 ?_
          refine dj_iconst C dX9_readsSize_75 dc_iconst_1 ?_
          refine dj_iload_n C 2 rfl dX9_readsSize_76 ?_
          refine dj_ishl C dX9_readsSize_77 ?_
          refine dj_ior C dX9_readsSize_78 ?_
          refine dj_iastn (n := 7) (j := 6) C dz_93 (by decide) (by decide) (by decide) dX9_readsSize_79 (fun S18 => ?_)
          refine dj_iconst C dX9_readsSize_80 dc_iconst_1 ?_
          exact dj_zret C rfl dX9_readsSize_81
  · refine dj_iconst C dX9_readsSize_19 dc_iconst_0 ?_
    exact dj_zret C rfl dX9_readsSize_20
noncomputable def fX9_walkerFault_L35 (x1 : Int32) : Nat → dk_S → Option (Int32 × dk_S)
  | 0, _ => none
  | n + 1, S => dk_gd (dk_in x1 4) (if (S.1 87 x1.toNatClampNeg) ≤ (S.1 82 14) then some ((-9), S) else (fX9_byteAt x1 (S.1 82 14) S).bind (fun r4 => if r4.1 = 32 then dk_lt (dk_si r4.2 82 14 ((r4.2.1 82 14) + 1)) (fun S8 => fX9_walkerFault_L35 x1 n  S8) else (fX9_readsSize x1 r4.2).bind (fun r6 => if r6.1 = 0 then some (r6.2.1 82 14, r6.2) else fX9_walkerFault_L35 x1 n  r6.2)))
noncomputable def fX9_walkerFault_L7 (x1 : Int32) (kx35 : dk_S → Option (Int32 × dk_S)) : Nat → Int32 → dk_S → Option (Int32 × dk_S)
  | 0, _, _ => none
  | n + 1, x2, S => if 7 ≤ x2 then kx35 S else dk_lt (if 4 ≤ x2 then 0 else 5) (fun y10 : Int32 => dk_gd (dk_in x2 7) (dk_lt (dk_si S 93 x2.toNatClampNeg y10) (fun S11 => fX9_walkerFault_L7 x1 kx35 n (x2 + 1) S11)))
noncomputable def fX9_walkerFault (x1 : Int32) (S : dk_S) : Option (Int32 × dk_S) := dk_lt (dk_si S 82 14 0) (fun S1 => fX9_walkerFault_L7 x1 (fun t2 : dk_S => fX9_walkerFault_L35 x1 dk_FU t2) dk_FU 0 S1)
set_option maxRecDepth 100000 in
set_option maxHeartbeats 4000000 in
theorem jX9_walkerFault_L35 {p : Program} {l : Launch} {e : Env} {R : Room} {s : State} {m : MethodId} {args : Array Value} {below : List Frame} {meth : Method} {c : Code} {g : dk_G} (C : dk_C p l e R s m args below meth c g cX9_walkerFault "DuckWalkModel" 3 (some .int)) (hR : R = { frames := 3, cells := 0, slots := 0, locals := 67 }) (x1 : Int32)   : ∀ (n : Nat)  (S : dk_S), dk_J p l e R s m args below meth c g 3 dk_qi 35 [(0, .ref (g.1 82)), (1, .int x1)] [] S (fX9_walkerFault_L35 x1 n  S) some := by
  subst hR
  intro n
  induction n with
  | zero =>
    intro S
    exact dj_none
  | succ n ih =>
    intro S
    rw [fX9_walkerFault_L35]
    refine dj_aload_n C 0 rfl dX9_walkerFault_35 ?_
    refine dj_geti C dl_X9_108 rfl dz_82 dX9_walkerFault_36 ?_
    refine dj_aload_n C 0 rfl dX9_walkerFault_39 ?_
    refine dj_getr (r := 5) (k2 := 87) C dl_X9_22 rfl dz_82 rfl dX9_walkerFault_40 ?_
    refine dj_iload_n C 1 rfl dX9_walkerFault_43 ?_
    refine dj_iald (n := 4) C dz_87 (by decide) dX9_walkerFault_44 ?_
    refine dj_icmp_ge (tgt := 88) C dX9_walkerFault_45 (by decide) (fun c3 => ?_) (fun c3 => ?_)
    · refine dj_bipush C dX9_walkerFault_88 dc_bipush_m9 ?_
      exact dj_iret C dX9_walkerFault_90
    · refine dj_aload_n C 0 rfl dX9_walkerFault_48 ?_
      refine dj_iload_n C 1 rfl dX9_walkerFault_49 ?_
      refine dj_aload_n C 0 rfl dX9_walkerFault_50 ?_
      refine dj_geti C dl_X9_108 rfl dz_82 dX9_walkerFault_51 ?_
      refine dj_callVi (t := 9) (As := [.int x1, .int (S.1 82 14)]) C dw_X9_111 ⟨_, _, rfl⟩ (by decide) dz_82 (ct_X9_byteAt l g x1 (S.1 82 14) S) ⟨Nat.le_of_ble_eq_true rfl, Nat.le_of_ble_eq_true rfl⟩ rfl (Nat.le_of_ble_eq_true rfl) rfl dX9_walkerFault_54 (fun r4 => ?_)
      refine dj_bipush C dX9_walkerFault_57 dc_bipush_32 ?_
      refine dj_icmp_ne (tgt := 75) C dX9_walkerFault_59 (by decide) (fun c5 => ?_) (fun c5 => ?_)
      · refine dj_aload_n C 0 rfl dX9_walkerFault_75 ?_
        refine dj_iload_n C 1 rfl dX9_walkerFault_76 ?_
        refine dj_callVi (t := 9) (As := [.int x1]) C dw_X9_124 ⟨_, _, rfl⟩ (by decide) dz_82 (ct_X9_readsSize l g x1 r4.2) ⟨Nat.le_of_ble_eq_true rfl, Nat.le_of_ble_eq_true rfl⟩ rfl (Nat.le_of_ble_eq_true rfl) rfl dX9_walkerFault_77 (fun r6 => ?_)
        refine dj_if_ne (tgt := 35) C dX9_walkerFault_80 (by decide) (fun c7 => ?_) (fun c7 => ?_)
        · exact ih  r6.2
        · refine dj_aload_n C 0 rfl dX9_walkerFault_83 ?_
          refine dj_geti C dl_X9_108 rfl dz_82 dX9_walkerFault_84 ?_
          exact dj_iret C dX9_walkerFault_87
      · refine dj_aload_n C 0 rfl dX9_walkerFault_62 ?_
        refine dj_dup C dX9_walkerFault_63 rfl ?_
        refine dj_geti C dl_X9_108 rfl dz_82 dX9_walkerFault_64 ?_
        refine dj_iconst C dX9_walkerFault_67 dc_iconst_1 ?_
        refine dj_iadd C dX9_walkerFault_68 ?_
        refine dj_puti C dl_X9_108 dp_9_14 rfl dz_82 dX9_walkerFault_69 (fun S8 => ?_)
        refine dj_goto (tgt := 35) C dX9_walkerFault_72 (by decide) ?_
        exact ih  S8
set_option maxRecDepth 100000 in
set_option maxHeartbeats 4000000 in
theorem jX9_walkerFault_L7 {p : Program} {l : Launch} {e : Env} {R : Room} {s : State} {m : MethodId} {args : Array Value} {below : List Frame} {meth : Method} {c : Code} {g : dk_G} (C : dk_C p l e R s m args below meth c g cX9_walkerFault "DuckWalkModel" 3 (some .int)) (hR : R = { frames := 3, cells := 0, slots := 0, locals := 67 }) (x1 : Int32) (kx35 : dk_S → Option (Int32 × dk_S))  (hkx35 : ∀ t : dk_S, dk_J p l e R s m args below meth c g 3 dk_qi 35 [(0, .ref (g.1 82)), (1, .int x1)] [] t (kx35 t) some) : ∀ (n : Nat) (x2 : Int32) (S : dk_S), dk_J p l e R s m args below meth c g 3 dk_qi 7 [(0, .ref (g.1 82)), (1, .int x1), (2, .int x2)] [] S (fX9_walkerFault_L7 x1 kx35 n x2 S) some := by
  subst hR
  intro n
  induction n with
  | zero =>
    intro x2 S
    exact dj_none
  | succ n ih =>
    intro x2 S
    rw [fX9_walkerFault_L7]
    refine dj_iload_n C 2 rfl dX9_walkerFault_7 ?_
    refine dj_bipush C dX9_walkerFault_8 dc_bipush_7 ?_
    refine dj_icmp_ge (tgt := 35) C dX9_walkerFault_10 (by decide) (fun c9 => ?_) (fun c9 => ?_)
    · refine dj_sub (lv2 := [(0, .ref (g.1 82)), (1, .int x1)]) [0, 1] rfl ?_
      exact hkx35 S
    · refine dj_aload_n C 0 rfl dX9_walkerFault_13 ?_
      refine dj_getr (r := 11) (k2 := 93) C dl_X9_42 rfl dz_82 rfl dX9_walkerFault_14 ?_
      refine dj_iload_n C 2 rfl dX9_walkerFault_17 ?_
      refine dj_iload_n C 2 rfl dX9_walkerFault_18 ?_
      refine dj_iconst C dX9_walkerFault_19 dc_iconst_4 ?_
      refine dj_dia 28 [.int x2, .ref (g.1 93)] (fun y10 => ?_) (fun hd10 => ?_)
      · refine dj_iast (n := 7) C dz_93 (by decide) dX9_walkerFault_28 (fun S11 => ?_)
        refine dj_iinc (lv2 := [(0, .ref (g.1 82)), (1, .int x1), (2, .int (x2 + 1))]) C 2 rfl [1, 2, 0] dX9_walkerFault_29 dc_iconst_1 (by decide) rfl ?_
        refine dj_goto (tgt := 7) C dX9_walkerFault_32 (by decide) ?_
        exact ih (x2 + 1) S11
      · refine dj_ltite ?_
        refine dj_icmp_ge (tgt := 27) C dX9_walkerFault_20 (by decide) (fun c12 => ?_) (fun c12 => ?_)
        · refine dj_iconst C dX9_walkerFault_27 dc_iconst_0 ?_
          exact hd10 _
        · refine dj_iconst C dX9_walkerFault_23 dc_iconst_5 ?_
          refine dj_goto (tgt := 28) C dX9_walkerFault_24 (by decide) ?_
          exact hd10 _
set_option maxRecDepth 100000 in
set_option maxHeartbeats 4000000 in
theorem ct_X9_walkerFault (l : Launch) (g : dk_G) (x1 : Int32) (S : dk_S)  : dk_M l g yX9_walkerFault cX9_walkerFault 3 (some .int) 3 67 [.ref (g.1 82), .int x1] S (fX9_walkerFault x1 S) dk_qi := by
  refine dk_enter "DuckWalkModel" (by decide +kernel) rfl (Nat.le_of_ble_eq_true rfl) [(0, .ref (g.1 82)), (1, .int x1)] rfl ?_
  intro p e s m args below meth c C
  unfold fX9_walkerFault
  refine dj_aload_n C 0 rfl dX9_walkerFault_0 ?_
  refine dj_iconst C dX9_walkerFault_1 dc_iconst_0 ?_
  refine dj_puti C dl_X9_108 dp_9_14 rfl dz_82 dX9_walkerFault_2 (fun S1 => ?_)
  refine dj_iconst C dX9_walkerFault_5 dc_iconst_0 ?_
  refine dj_istore_n (lv2 := [(0, .ref (g.1 82)), (1, .int x1), (2, .int 0)]) C [1, 2, 0] dX9_walkerFault_6 rfl (by decide) rfl ?_
  refine jX9_walkerFault_L7 C rfl x1 _ (fun t2 => ?_) dk_FU 0 S1
  · refine jX9_walkerFault_L35 C rfl x1 dk_FU  t2
noncomputable def fX9_readsBoard (x1 : Int32) (S : dk_S) : Option (Int32 × dk_S) := (fX9_byteAt x1 (S.1 82 14) S).bind (fun r1 => dk_lt (fun t2 : dk_S => (dk_lt (fun t4 : dk_S => (dk_lt (dk_si t4 82 14 ((t4.1 82 14) + 1)) (fun S6 => if r1.1 = 117 then (fX9_figure x1 0 S6).bind (fun r23 => if r23.1 = 0 then dk_lt (dk_si r23.2 94 0 (r23.2.1 94 0)) (fun S25 => dk_gd (decide (r23.1 = 0 ∨ r23.1 = 1)) (some (r23.1, S25))) else dk_lt (dk_si r23.2 94 0 (r23.2.1 82 15)) (fun S26 => dk_gd (decide (r23.1 = 0 ∨ r23.1 = 1)) (some (r23.1, S26)))) else (fX9_figure x1 0 S6).bind (fun r8 => if r8.1 = 0 then some (0, r8.2) else dk_lt (r8.2.1 82 15) (fun y10 : Int32 => (fX9_figure x1 0 r8.2).bind (fun r11 => dk_lt (fun t12 : Int32 × dk_S => ((fX9_byteAt x1 (t12.2.1 82 14) t12.2).bind (fun r14 => if r14.1 = 58 then dk_lt (dk_si r14.2 82 14 ((r14.2.1 82 14) + 1)) (fun S16 => (fX9_figure x1 1 S16).bind (fun r17 => if r17.1 = 0 then some (0, r17.2) else dk_gd (dk_in (1 + t12.1) 101) (dk_gd (dk_in (1 + t12.1) 101) (dk_lt (dk_si r17.2 94 (1 + t12.1).toNatClampNeg ((r17.2.1 94 (1 + t12.1).toNatClampNeg) + (r17.2.1 82 15))) (fun S19 => dk_lt (dk_si S19 82 16 ((S19.1 82 16) + 1)) (fun S20 => some (1, S20))))))) else some (0, r14.2)) : Option (Int32 × dk_S))) (fun k13 => if r11.1 = 0 then k13 (y10, r11.2) else dk_lt ((10 * y10) + (r11.2.1 82 15)) (fun y22 : Int32 => k13 (y22, r11.2))))))) : Option (Int32 × dk_S))) (fun k5 => if r1.1 = 98 then if (t2.1 82 16) = 8 then some (0, t2) else k5 t2 else k5 t2) : Option (Int32 × dk_S))) (fun k3 => if r1.1 = 117 then k3 r1.2 else if r1.1 = 98 then k3 r1.2 else some (0, r1.2)))
set_option maxRecDepth 100000 in
set_option maxHeartbeats 4000000 in
theorem ct_X9_readsBoard (l : Launch) (g : dk_G) (x1 : Int32) (S : dk_S)  : dk_M l g yX9_readsBoard cX9_readsBoard 4 (some .boolean) 2 45 [.ref (g.1 82), .int x1] S (fX9_readsBoard x1 S) dk_qi := by
  refine dk_enter "DuckWalkModel" (by decide +kernel) rfl (Nat.le_of_ble_eq_true rfl) [(0, .ref (g.1 82)), (1, .int x1)] rfl ?_
  intro p e s m args below meth c C
  unfold fX9_readsBoard
  refine dj_aload_n C 0 rfl dX9_readsBoard_0 ?_
  refine dj_iload_n C 1 rfl dX9_readsBoard_1 ?_
  refine dj_aload_n C 0 rfl dX9_readsBoard_2 ?_
  refine dj_geti C dl_X9_108 rfl dz_82 dX9_readsBoard_3 ?_
  refine dj_callVi (t := 9) (As := [.int x1, .int (S.1 82 14)]) C dw_X9_111 ⟨_, _, rfl⟩ (by decide) dz_82 (ct_X9_byteAt l g x1 (S.1 82 14) S) ⟨Nat.le_of_ble_eq_true rfl, Nat.le_of_ble_eq_true rfl⟩ rfl (Nat.le_of_ble_eq_true rfl) rfl dX9_readsBoard_6 (fun r1 => ?_)
  refine dj_istore_n (lv2 := [(0, .ref (g.1 82)), (1, .int x1), (2, .int r1.1)]) C [1, 2, 0] dX9_readsBoard_9 rfl (by decide) rfl ?_
  refine dj_iload_n C 2 rfl dX9_readsBoard_10 ?_
  refine dj_bipush C dX9_readsBoard_11 dc_bipush_117 ?_
  refine dj_join 22 (fun t2 : dk_S => [(0, .ref (g.1 82)), (1, .int x1), (2, .int r1.1)]) (fun t2 : dk_S => []) (fun t2 : dk_S => t2) (fun t2 => ?_) (fun k3 hk3 => ?_)
  · refine dj_iload_n C 2 rfl dX9_readsBoard_22 ?_
    refine dj_bipush C dX9_readsBoard_23 dc_bipush_98 ?_
    refine dj_join 39 (fun t4 : dk_S => [(0, .ref (g.1 82)), (1, .int x1), (2, .int r1.1)]) (fun t4 : dk_S => []) (fun t4 : dk_S => t4) (fun t4 => ?_) (fun k5 hk5 => ?_)
    · refine dj_aload_n C 0 rfl dX9_readsBoard_39 ?_
      refine dj_dup C dX9_readsBoard_40 rfl ?_
      refine dj_geti C dl_X9_108 rfl dz_82 dX9_readsBoard_41 ?_
      refine dj_iconst C dX9_readsBoard_44 dc_iconst_1 ?_
      refine dj_iadd C dX9_readsBoard_45 ?_
      refine dj_puti C dl_X9_108 dp_9_14 rfl dz_82 dX9_readsBoard_46 (fun S6 => ?_)
      refine dj_iload_n C 2 rfl dX9_readsBoard_49 ?_
      refine dj_bipush C dX9_readsBoard_50 dc_bipush_117 ?_
      refine dj_icmp_ne (tgt := 87) C dX9_readsBoard_52 (by decide) (fun c7 => ?_) (fun c7 => ?_)
      · refine dj_aload_n C 0 rfl dX9_readsBoard_87 ?_
        refine dj_iload_n C 1 rfl dX9_readsBoard_88 ?_
        refine dj_iconst C dX9_readsBoard_89 dc_iconst_0 ?_
        refine dj_callVi (t := 9) (As := [.int x1, .int 0]) C dw_X9_120 ⟨_, _, rfl⟩ (by decide) dz_82 (ct_X9_figure l g x1 0 S6) ⟨Nat.le_of_ble_eq_true rfl, Nat.le_of_ble_eq_true rfl⟩ rfl (Nat.le_of_ble_eq_true rfl) rfl dX9_readsBoard_90 (fun r8 => ?_)
        refine dj_if_ne (tgt := 98) C dX9_readsBoard_93 (by decide) (fun c9 => ?_) (fun c9 => ?_)
        · refine dj_aload_n C 0 rfl dX9_readsBoard_98 ?_
          refine dj_geti C dl_X9_114 rfl dz_82 dX9_readsBoard_99 ?_
          refine dj_lti (fun y10 => ?_)
          refine dj_istore_n (lv2 := [(0, .ref (g.1 82)), (1, .int x1), (3, .int y10)]) C [1, 2, 0] dX9_readsBoard_102 rfl (by decide) rfl ?_
          refine dj_aload_n C 0 rfl dX9_readsBoard_103 ?_
          refine dj_iload_n C 1 rfl dX9_readsBoard_104 ?_
          refine dj_iconst C dX9_readsBoard_105 dc_iconst_0 ?_
          refine dj_callVi (t := 9) (As := [.int x1, .int 0]) C dw_X9_120 ⟨_, _, rfl⟩ (by decide) dz_82 (ct_X9_figure l g x1 0 r8.2) ⟨Nat.le_of_ble_eq_true rfl, Nat.le_of_ble_eq_true rfl⟩ rfl (Nat.le_of_ble_eq_true rfl) rfl dX9_readsBoard_106 (fun r11 => ?_)
          refine dj_join 122 (fun t12 : Int32 × dk_S => [(0, .ref (g.1 82)), (1, .int x1), (3, .int t12.1)]) (fun t12 : Int32 × dk_S => []) (fun t12 : Int32 × dk_S => t12.2) (fun t12 => ?_) (fun k13 hk13 => ?_)
          · refine dj_aload_n C 0 rfl dX9_readsBoard_122 ?_
            refine dj_iload_n C 1 rfl dX9_readsBoard_123 ?_
            refine dj_aload_n C 0 rfl dX9_readsBoard_124 ?_
            refine dj_geti C dl_X9_108 rfl dz_82 dX9_readsBoard_125 ?_
            refine dj_callVi (t := 9) (As := [.int x1, .int (t12.2.1 82 14)]) C dw_X9_111 ⟨_, _, rfl⟩ (by decide) dz_82 (ct_X9_byteAt l g x1 (t12.2.1 82 14) t12.2) ⟨Nat.le_of_ble_eq_true rfl, Nat.le_of_ble_eq_true rfl⟩ rfl (Nat.le_of_ble_eq_true rfl) rfl dX9_readsBoard_128 (fun r14 => ?_)
            refine dj_bipush C dX9_readsBoard_131 dc_bipush_58 ?_
            refine dj_icmp_eq (tgt := 138) C dX9_readsBoard_133 (by decide) (fun c15 => ?_) (fun c15 => ?_)
            · refine dj_aload_n C 0 rfl dX9_readsBoard_138 ?_
              refine dj_dup C dX9_readsBoard_139 rfl ?_
              refine dj_geti C dl_X9_108 rfl dz_82 dX9_readsBoard_140 ?_
              refine dj_iconst C dX9_readsBoard_143 dc_iconst_1 ?_
              refine dj_iadd C dX9_readsBoard_144 ?_
              refine dj_puti C dl_X9_108 dp_9_14 rfl dz_82 dX9_readsBoard_145 (fun S16 => ?_)
              refine dj_aload_n C 0 rfl dX9_readsBoard_148 ?_
              refine dj_iload_n C 1 rfl dX9_readsBoard_149 ?_
              refine dj_iconst C dX9_readsBoard_150 dc_iconst_1 ?_
              refine dj_callVi (t := 9) (As := [.int x1, .int 1]) C dw_X9_120 ⟨_, _, rfl⟩ (by decide) dz_82 (ct_X9_figure l g x1 1 S16) ⟨Nat.le_of_ble_eq_true rfl, Nat.le_of_ble_eq_true rfl⟩ rfl (Nat.le_of_ble_eq_true rfl) rfl dX9_readsBoard_151 (fun r17 => ?_)
              refine dj_if_ne (tgt := 159) C dX9_readsBoard_154 (by decide) (fun c18 => ?_) (fun c18 => ?_)
              · refine dj_aload_n C 0 rfl dX9_readsBoard_159 ?_
                refine dj_getr (r := 12) (k2 := 94) C dl_X9_45 rfl dz_82 rfl dX9_readsBoard_160 ?_
                refine dj_iconst C dX9_readsBoard_163 dc_iconst_1 ?_
                refine dj_iload_n C 2 rfl dX9_readsBoard_164 ?_
                refine dj_iadd C dX9_readsBoard_165 ?_
                refine dj_dup2 C dX9_readsBoard_166 rfl rfl ?_
                refine dj_iald (n := 101) C dz_94 (by decide) dX9_readsBoard_167 ?_
                refine dj_aload_n C 0 rfl dX9_readsBoard_168 ?_
                refine dj_geti C dl_X9_114 rfl dz_82 dX9_readsBoard_169 ?_
                refine dj_iadd C dX9_readsBoard_172 ?_
                refine dj_iast (n := 101) C dz_94 (by decide) dX9_readsBoard_173 (fun S19 => ?_)
                refine dj_aload_n C 0 rfl dX9_readsBoard_174 ?_
                refine dj_dup C dX9_readsBoard_175 rfl ?_
                refine dj_geti C dl_X9_127 rfl dz_82 dX9_readsBoard_176 ?_
                refine dj_iconst C dX9_readsBoard_179 dc_iconst_1 ?_
                refine dj_iadd C dX9_readsBoard_180 ?_
                refine dj_puti C dl_X9_127 dp_9_16 rfl dz_82 dX9_readsBoard_181 (fun S20 => ?_)
                refine dj_iconst C dX9_readsBoard_184 dc_iconst_1 ?_
                exact dj_zret C rfl dX9_readsBoard_185
              · refine dj_iconst C dX9_readsBoard_157 dc_iconst_0 ?_
                exact dj_zret C rfl dX9_readsBoard_158
            · refine dj_iconst C dX9_readsBoard_136 dc_iconst_0 ?_
              exact dj_zret C rfl dX9_readsBoard_137
          · refine dj_if_eq (tgt := 122) C dX9_readsBoard_109 (by decide) (fun c21 => ?_) (fun c21 => ?_)
            · exact hk13 (y10, r11.2)
            · refine dj_bipush C dX9_readsBoard_112 dc_bipush_10 ?_
              refine dj_iload_n C 2 rfl dX9_readsBoard_114 ?_
              refine dj_imul C dX9_readsBoard_115 ?_
              refine dj_aload_n C 0 rfl dX9_readsBoard_116 ?_
              refine dj_geti C dl_X9_114 rfl dz_82 dX9_readsBoard_117 ?_
              refine dj_iadd C dX9_readsBoard_120 ?_
              refine dj_lti (fun y22 => ?_)
              refine dj_istore_n (lv2 := [(0, .ref (g.1 82)), (1, .int x1), (3, .int y22)]) C [1, 2, 0] dX9_readsBoard_121 rfl (by decide) rfl ?_
              exact hk13 (y22, r11.2)
        · refine dj_iconst C dX9_readsBoard_96 dc_iconst_0 ?_
          exact dj_zret C rfl dX9_readsBoard_97
      · refine dj_aload_n C 0 rfl dX9_readsBoard_55 ?_
        refine dj_iload_n C 1 rfl dX9_readsBoard_56 ?_
        refine dj_iconst C dX9_readsBoard_57 dc_iconst_0 ?_
        refine dj_callVi (t := 9) (As := [.int x1, .int 0]) C dw_X9_120 ⟨_, _, rfl⟩ (by decide) dz_82 (ct_X9_figure l g x1 0 S6) ⟨Nat.le_of_ble_eq_true rfl, Nat.le_of_ble_eq_true rfl⟩ rfl (Nat.le_of_ble_eq_true rfl) rfl dX9_readsBoard_58 (fun r23 => ?_)
        refine dj_istore_n (lv2 := [(0, .ref (g.1 82)), (3, .int r23.1)]) C [1, 0] dX9_readsBoard_61 rfl (by decide) rfl ?_
        refine dj_aload_n C 0 rfl dX9_readsBoard_62 ?_
        refine dj_getr (r := 12) (k2 := 94) C dl_X9_45 rfl dz_82 rfl dX9_readsBoard_63 ?_
        refine dj_iconst C dX9_readsBoard_66 dc_iconst_0 ?_
        refine dj_iload_n C 1 rfl dX9_readsBoard_67 ?_
        refine dj_if_eq (tgt := 78) C dX9_readsBoard_68 (by decide) (fun c24 => ?_) (fun c24 => ?_)
        · refine dj_aload_n C 0 rfl dX9_readsBoard_78 ?_
          refine dj_getr (r := 12) (k2 := 94) C dl_X9_45 rfl dz_82 rfl dX9_readsBoard_79 ?_
          refine dj_iconst C dX9_readsBoard_82 dc_iconst_0 ?_
          refine dj_ialdn (n := 101) (j := 0) C dz_94 (by decide) (by decide) (by decide) dX9_readsBoard_83 ?_
          refine dj_iastn (n := 101) (j := 0) C dz_94 (by decide) (by decide) (by decide) dX9_readsBoard_84 (fun S25 => ?_)
          refine dj_iload_n C 1 rfl dX9_readsBoard_85 ?_
          exact dj_zretg C dX9_readsBoard_86
        · refine dj_aload_n C 0 rfl dX9_readsBoard_71 ?_
          refine dj_geti C dl_X9_114 rfl dz_82 dX9_readsBoard_72 ?_
          refine dj_goto (tgt := 84) C dX9_readsBoard_75 (by decide) ?_
          refine dj_iastn (n := 101) (j := 0) C dz_94 (by decide) (by decide) (by decide) dX9_readsBoard_84 (fun S26 => ?_)
          refine dj_iload_n C 1 rfl dX9_readsBoard_85 ?_
          exact dj_zretg C dX9_readsBoard_86
    · refine dj_icmp_ne (tgt := 39) C dX9_readsBoard_25 (by decide) (fun c27 => ?_) (fun c27 => ?_)
      · exact hk5 t2
      · refine dj_aload_n C 0 rfl dX9_readsBoard_28 ?_
        refine dj_geti C dl_X9_127 rfl dz_82 dX9_readsBoard_29 ?_
        refine dj_bipush C dX9_readsBoard_32 dc_bipush_8 ?_
        refine dj_icmp_ne (tgt := 39) C dX9_readsBoard_34 (by decide) (fun c28 => ?_) (fun c28 => ?_)
        · exact hk5 t2
        · refine dj_iconst C dX9_readsBoard_37 dc_iconst_0 ?_
          exact dj_zret C rfl dX9_readsBoard_38
  · refine dj_icmp_eq (tgt := 22) C dX9_readsBoard_13 (by decide) (fun c29 => ?_) (fun c29 => ?_)
    · exact hk3 r1.2
    · refine dj_iload_n C 2 rfl dX9_readsBoard_16 ?_
      refine dj_bipush C dX9_readsBoard_17 dc_bipush_98 ?_
      refine dj_icmp_ne (tgt := 37) C dX9_readsBoard_19 (by decide) (fun c30 => ?_) (fun c30 => ?_)
      · refine dj_iconst C dX9_readsBoard_37 dc_iconst_0 ?_
        exact dj_zret C rfl dX9_readsBoard_38
      · exact hk3 r1.2
noncomputable def fX9_boardFault_L39 (x1 : Int32) : Nat → dk_S → Option (Int32 × dk_S)
  | 0, _ => none
  | n + 1, S => dk_gd (dk_in x1 4) (if (S.1 87 x1.toNatClampNeg) ≤ (S.1 82 14) then some ((-9), S) else (fX9_byteAt x1 (S.1 82 14) S).bind (fun r5 => if r5.1 = 32 then dk_lt (dk_si r5.2 82 14 ((r5.2.1 82 14) + 1)) (fun S9 => fX9_boardFault_L39 x1 n  S9) else (fX9_readsBoard x1 r5.2).bind (fun r7 => if r7.1 = 0 then some (r7.2.1 82 14, r7.2) else fX9_boardFault_L39 x1 n  r7.2)))
noncomputable def fX9_boardFault_L12 (x1 : Int32) (kx39 : dk_S → Option (Int32 × dk_S)) : Nat → Int32 → dk_S → Option (Int32 × dk_S)
  | 0, _, _ => none
  | n + 1, x2, S => if 101 ≤ x2 then kx39 S else dk_lt (if x2 = 0 then 1 else 0) (fun y11 : Int32 => dk_gd (dk_in x2 101) (dk_lt (dk_si S 94 x2.toNatClampNeg y11) (fun S12 => fX9_boardFault_L12 x1 kx39 n (x2 + 1) S12)))
noncomputable def fX9_boardFault (x1 : Int32) (S : dk_S) : Option (Int32 × dk_S) := dk_lt (dk_si S 82 14 0) (fun S1 => dk_lt (dk_si S1 82 16 0) (fun S2 => fX9_boardFault_L12 x1 (fun t3 : dk_S => fX9_boardFault_L39 x1 dk_FU t3) dk_FU 0 S2))
set_option maxRecDepth 100000 in
set_option maxHeartbeats 4000000 in
theorem jX9_boardFault_L39 {p : Program} {l : Launch} {e : Env} {R : Room} {s : State} {m : MethodId} {args : Array Value} {below : List Frame} {meth : Method} {c : Code} {g : dk_G} (C : dk_C p l e R s m args below meth c g cX9_boardFault "DuckWalkModel" 3 (some .int)) (hR : R = { frames := 3, cells := 0, slots := 0, locals := 68 }) (x1 : Int32)   : ∀ (n : Nat)  (S : dk_S), dk_J p l e R s m args below meth c g 3 dk_qi 39 [(0, .ref (g.1 82)), (1, .int x1)] [] S (fX9_boardFault_L39 x1 n  S) some := by
  subst hR
  intro n
  induction n with
  | zero =>
    intro S
    exact dj_none
  | succ n ih =>
    intro S
    rw [fX9_boardFault_L39]
    refine dj_aload_n C 0 rfl dX9_boardFault_39 ?_
    refine dj_geti C dl_X9_108 rfl dz_82 dX9_boardFault_40 ?_
    refine dj_aload_n C 0 rfl dX9_boardFault_43 ?_
    refine dj_getr (r := 5) (k2 := 87) C dl_X9_22 rfl dz_82 rfl dX9_boardFault_44 ?_
    refine dj_iload_n C 1 rfl dX9_boardFault_47 ?_
    refine dj_iald (n := 4) C dz_87 (by decide) dX9_boardFault_48 ?_
    refine dj_icmp_ge (tgt := 92) C dX9_boardFault_49 (by decide) (fun c4 => ?_) (fun c4 => ?_)
    · refine dj_bipush C dX9_boardFault_92 dc_bipush_m9 ?_
      exact dj_iret C dX9_boardFault_94
    · refine dj_aload_n C 0 rfl dX9_boardFault_52 ?_
      refine dj_iload_n C 1 rfl dX9_boardFault_53 ?_
      refine dj_aload_n C 0 rfl dX9_boardFault_54 ?_
      refine dj_geti C dl_X9_108 rfl dz_82 dX9_boardFault_55 ?_
      refine dj_callVi (t := 9) (As := [.int x1, .int (S.1 82 14)]) C dw_X9_111 ⟨_, _, rfl⟩ (by decide) dz_82 (ct_X9_byteAt l g x1 (S.1 82 14) S) ⟨Nat.le_of_ble_eq_true rfl, Nat.le_of_ble_eq_true rfl⟩ rfl (Nat.le_of_ble_eq_true rfl) rfl dX9_boardFault_58 (fun r5 => ?_)
      refine dj_bipush C dX9_boardFault_61 dc_bipush_32 ?_
      refine dj_icmp_ne (tgt := 79) C dX9_boardFault_63 (by decide) (fun c6 => ?_) (fun c6 => ?_)
      · refine dj_aload_n C 0 rfl dX9_boardFault_79 ?_
        refine dj_iload_n C 1 rfl dX9_boardFault_80 ?_
        refine dj_callVi (t := 9) (As := [.int x1]) C dw_X9_130 ⟨_, _, rfl⟩ (by decide) dz_82 (ct_X9_readsBoard l g x1 r5.2) ⟨Nat.le_of_ble_eq_true rfl, Nat.le_of_ble_eq_true rfl⟩ rfl (Nat.le_of_ble_eq_true rfl) rfl dX9_boardFault_81 (fun r7 => ?_)
        refine dj_if_ne (tgt := 39) C dX9_boardFault_84 (by decide) (fun c8 => ?_) (fun c8 => ?_)
        · exact ih  r7.2
        · refine dj_aload_n C 0 rfl dX9_boardFault_87 ?_
          refine dj_geti C dl_X9_108 rfl dz_82 dX9_boardFault_88 ?_
          exact dj_iret C dX9_boardFault_91
      · refine dj_aload_n C 0 rfl dX9_boardFault_66 ?_
        refine dj_dup C dX9_boardFault_67 rfl ?_
        refine dj_geti C dl_X9_108 rfl dz_82 dX9_boardFault_68 ?_
        refine dj_iconst C dX9_boardFault_71 dc_iconst_1 ?_
        refine dj_iadd C dX9_boardFault_72 ?_
        refine dj_puti C dl_X9_108 dp_9_14 rfl dz_82 dX9_boardFault_73 (fun S9 => ?_)
        refine dj_goto (tgt := 39) C dX9_boardFault_76 (by decide) ?_
        exact ih  S9
set_option maxRecDepth 100000 in
set_option maxHeartbeats 4000000 in
theorem jX9_boardFault_L12 {p : Program} {l : Launch} {e : Env} {R : Room} {s : State} {m : MethodId} {args : Array Value} {below : List Frame} {meth : Method} {c : Code} {g : dk_G} (C : dk_C p l e R s m args below meth c g cX9_boardFault "DuckWalkModel" 3 (some .int)) (hR : R = { frames := 3, cells := 0, slots := 0, locals := 68 }) (x1 : Int32) (kx39 : dk_S → Option (Int32 × dk_S))  (hkx39 : ∀ t : dk_S, dk_J p l e R s m args below meth c g 3 dk_qi 39 [(0, .ref (g.1 82)), (1, .int x1)] [] t (kx39 t) some) : ∀ (n : Nat) (x2 : Int32) (S : dk_S), dk_J p l e R s m args below meth c g 3 dk_qi 12 [(0, .ref (g.1 82)), (1, .int x1), (2, .int x2)] [] S (fX9_boardFault_L12 x1 kx39 n x2 S) some := by
  subst hR
  intro n
  induction n with
  | zero =>
    intro x2 S
    exact dj_none
  | succ n ih =>
    intro x2 S
    rw [fX9_boardFault_L12]
    refine dj_iload_n C 2 rfl dX9_boardFault_12 ?_
    refine dj_bipush C dX9_boardFault_13 dc_bipush_101 ?_
    refine dj_icmp_ge (tgt := 39) C dX9_boardFault_15 (by decide) (fun c10 => ?_) (fun c10 => ?_)
    · refine dj_sub (lv2 := [(0, .ref (g.1 82)), (1, .int x1)]) [0, 1] rfl ?_
      exact hkx39 S
    · refine dj_aload_n C 0 rfl dX9_boardFault_18 ?_
      refine dj_getr (r := 12) (k2 := 94) C dl_X9_45 rfl dz_82 rfl dX9_boardFault_19 ?_
      refine dj_iload_n C 2 rfl dX9_boardFault_22 ?_
      refine dj_iload_n C 2 rfl dX9_boardFault_23 ?_
      refine dj_dia 32 [.int x2, .ref (g.1 94)] (fun y11 => ?_) (fun hd11 => ?_)
      · refine dj_iast (n := 101) C dz_94 (by decide) dX9_boardFault_32 (fun S12 => ?_)
        refine dj_iinc (lv2 := [(0, .ref (g.1 82)), (1, .int x1), (2, .int (x2 + 1))]) C 2 rfl [1, 2, 0] dX9_boardFault_33 dc_iconst_1 (by decide) rfl ?_
        refine dj_goto (tgt := 12) C dX9_boardFault_36 (by decide) ?_
        exact ih (x2 + 1) S12
      · refine dj_ltite ?_
        refine dj_if_ne (tgt := 31) C dX9_boardFault_24 (by decide) (fun c13 => ?_) (fun c13 => ?_)
        · refine dj_iconst C dX9_boardFault_31 dc_iconst_0 ?_
          exact hd11 _
        · refine dj_iconst C dX9_boardFault_27 dc_iconst_1 ?_
          refine dj_goto (tgt := 32) C dX9_boardFault_28 (by decide) ?_
          exact hd11 _
set_option maxRecDepth 100000 in
set_option maxHeartbeats 4000000 in
theorem ct_X9_boardFault (l : Launch) (g : dk_G) (x1 : Int32) (S : dk_S)  : dk_M l g yX9_boardFault cX9_boardFault 3 (some .int) 3 68 [.ref (g.1 82), .int x1] S (fX9_boardFault x1 S) dk_qi := by
  refine dk_enter "DuckWalkModel" (by decide +kernel) rfl (Nat.le_of_ble_eq_true rfl) [(0, .ref (g.1 82)), (1, .int x1)] rfl ?_
  intro p e s m args below meth c C
  unfold fX9_boardFault
  refine dj_aload_n C 0 rfl dX9_boardFault_0 ?_
  refine dj_iconst C dX9_boardFault_1 dc_iconst_0 ?_
  refine dj_puti C dl_X9_108 dp_9_14 rfl dz_82 dX9_boardFault_2 (fun S1 => ?_)
  refine dj_aload_n C 0 rfl dX9_boardFault_5 ?_
  refine dj_iconst C dX9_boardFault_6 dc_iconst_0 ?_
  refine dj_puti C dl_X9_127 dp_9_16 rfl dz_82 dX9_boardFault_7 (fun S2 => ?_)
  refine dj_iconst C dX9_boardFault_10 dc_iconst_0 ?_
  refine dj_istore_n (lv2 := [(0, .ref (g.1 82)), (1, .int x1), (2, .int 0)]) C [1, 2, 0] dX9_boardFault_11 rfl (by decide) rfl ?_
  refine jX9_boardFault_L12 C rfl x1 _ (fun t3 => ?_) dk_FU 0 S2
  · refine jX9_boardFault_L39 C rfl x1 dk_FU  t3
noncomputable def fX9_fault (x1 : Int32) (x2 : Int32) (S : dk_S) : Option (Int32 × dk_S) := (fX9_isText x1 S).bind (fun r1 => if r1.1 = 0 then some ((-1), r1.2) else dk_gd (dk_in x1 4) (if 0 ≤ (r1.2.1 87 x1.toNatClampNeg) then if x2 = 0 then (fX9_walkerFault x1 r1.2).bind (fun r5 => some (r5.1, r5.2)) else (fX9_boardFault x1 r1.2).bind (fun r6 => some (r6.1, r6.2)) else (fX9_notes 1 r1.2).bind (fun r7 => some (r7.1, r7.2))))
set_option maxRecDepth 100000 in
set_option maxHeartbeats 4000000 in
theorem ct_X9_fault (l : Launch) (g : dk_G) (x1 : Int32) (x2 : Int32) (S : dk_S)  : dk_M l g yX9_fault cX9_fault 3 (some .int) 4 90 [.ref (g.1 82), .int x1, .int x2] S (fX9_fault x1 x2 S) dk_qi := by
  refine dk_enter "DuckWalkModel" (by decide +kernel) rfl (Nat.le_of_ble_eq_true rfl) [(0, .ref (g.1 82)), (1, .int x1), (2, .int x2)] rfl ?_
  intro p e s m args below meth c C
  unfold fX9_fault
  refine dj_iload_n C 1 rfl dX9_fault_0 ?_
  refine dj_callSi (As := [.int x1]) C dw_X9_105 (ct_X9_isText l g x1 S) ⟨Nat.le_of_ble_eq_true rfl, Nat.le_of_ble_eq_true rfl⟩ rfl (Nat.le_of_ble_eq_true rfl) rfl dX9_fault_1 (fun r1 => ?_)
  refine dj_if_ne (tgt := 9) C dX9_fault_4 (by decide) (fun c2 => ?_) (fun c2 => ?_)
  · refine dj_aload_n C 0 rfl dX9_fault_9 ?_
    refine dj_getr (r := 5) (k2 := 87) C dl_X9_22 rfl dz_82 rfl dX9_fault_10 ?_
    refine dj_iload_n C 1 rfl dX9_fault_13 ?_
    refine dj_iald (n := 4) C dz_87 (by decide) dX9_fault_14 ?_
    refine dj_if_ge (tgt := 26) C dX9_fault_15 (by decide) (fun c3 => ?_) (fun c3 => ?_)
    · refine dj_iload_n C 2 rfl dX9_fault_26 ?_
      refine dj_if_eq (tgt := 38) C dX9_fault_27 (by decide) (fun c4 => ?_) (fun c4 => ?_)
      · refine dj_aload_n C 0 rfl dX9_fault_38 ?_
        refine dj_iload_n C 1 rfl dX9_fault_39 ?_
        refine dj_callVi (t := 9) (As := [.int x1]) C dw_X9_136 ⟨_, _, rfl⟩ (by decide) dz_82 (ct_X9_walkerFault l g x1 r1.2) ⟨Nat.le_of_ble_eq_true rfl, Nat.le_of_ble_eq_true rfl⟩ rfl (Nat.le_of_ble_eq_true rfl) rfl dX9_fault_40 (fun r5 => ?_)
        exact dj_iret C dX9_fault_43
      · refine dj_aload_n C 0 rfl dX9_fault_30 ?_
        refine dj_iload_n C 1 rfl dX9_fault_31 ?_
        refine dj_callVi (t := 9) (As := [.int x1]) C dw_X9_133 ⟨_, _, rfl⟩ (by decide) dz_82 (ct_X9_boardFault l g x1 r1.2) ⟨Nat.le_of_ble_eq_true rfl, Nat.le_of_ble_eq_true rfl⟩ rfl (Nat.le_of_ble_eq_true rfl) rfl dX9_fault_32 (fun r6 => ?_)
        refine dj_goto (tgt := 43) C dX9_fault_35 (by decide) ?_
        exact dj_iret C dX9_fault_43
    · refine dj_aload_n C 0 rfl dX9_fault_18 ?_
      refine dj_iconst C dX9_fault_19 dc_iconst_1 ?_
      refine dj_callVi (t := 9) (As := [.int 1]) C dw_X9_94 ⟨_, _, rfl⟩ (by decide) dz_82 (ct_X9_notes l g 1 r1.2) ⟨Nat.le_of_ble_eq_true rfl, Nat.le_of_ble_eq_true rfl⟩ rfl (Nat.le_of_ble_eq_true rfl) rfl dX9_fault_20 (fun r7 => ?_)
      refine dj_goto (tgt := 43) C dX9_fault_23 (by decide) ?_
      exact dj_iret C dX9_fault_43
  · refine dj_iconst C dX9_fault_7 dc_iconst_m1 ?_
    exact dj_iret C dX9_fault_8
noncomputable def fX9_isPlace (x0 : Int32) (S : dk_S) : Option (Int32 × dk_S) := (fX9_in x0 0 3 S).bind (fun r1 => dk_gd (decide (r1.1 = 0 ∨ r1.1 = 1)) (some (r1.1, r1.2)))
set_option maxRecDepth 100000 in
set_option maxHeartbeats 4000000 in
theorem ct_X9_isPlace (l : Launch) (g : dk_G) (x0 : Int32) (S : dk_S)  : dk_M l g yX9_isPlace cX9_isPlace 1 (some .boolean) 1 22 [.int x0] S (fX9_isPlace x0 S) dk_qi := by
  refine dk_enter "DuckWalkModel" (by decide +kernel) rfl (Nat.le_of_ble_eq_true rfl) [(0, .int x0)] rfl ?_
  intro p e s m args below meth c C
  unfold fX9_isPlace
  refine dj_iload_n C 0 rfl dX9_isPlace_0 ?_
  refine dj_iconst C dX9_isPlace_1 dc_iconst_0 ?_
  refine dj_iconst C dX9_isPlace_2 dc_iconst_3 ?_
  refine dj_callSi (As := [.int x0, .int 0, .int 3]) C dw_X9_80 (ct_X9_in l g x0 0 3 S) ⟨Nat.le_of_ble_eq_true rfl, Nat.le_of_ble_eq_true rfl⟩ rfl (Nat.le_of_ble_eq_true rfl) rfl dX9_isPlace_3 (fun r1 => ?_)
  exact dj_zretg C dX9_isPlace_6
noncomputable def fX9_bits_L4  : Nat → Int32 → Int32 → dk_S → Option (Int32 × dk_S)
  | 0, _, _, _ => none
  | n + 1, x1, x2, S => if x2 = 0 then some (x1, S) else dk_lt (x2 &&& (x2 - 1)) (fun y2 : Int32 => fX9_bits_L4 n (x1 + 1) y2 S)
noncomputable def fX9_bits (x0 : Int32) (S : dk_S) : Option (Int32 × dk_S) := fX9_bits_L4 dk_FU 0 x0 S
set_option maxRecDepth 100000 in
set_option maxHeartbeats 4000000 in
theorem jX9_bits_L4 {p : Program} {l : Launch} {e : Env} {R : Room} {s : State} {m : MethodId} {args : Array Value} {below : List Frame} {meth : Method} {c : Code} {g : dk_G} (C : dk_C p l e R s m args below meth c g cX9_bits "DuckWalkModel" 3 (some .int)) (hR : R = { frames := 0, cells := 0, slots := 0, locals := 0 })    : ∀ (n : Nat) (x1 : Int32) (x2 : Int32) (S : dk_S), dk_J p l e R s m args below meth c g 3 dk_qi 4 [(1, .int x1), (2, .int x2)] [] S (fX9_bits_L4 n x1 x2 S) some := by
  subst hR
  intro n
  induction n with
  | zero =>
    intro x1 x2 S
    exact dj_none
  | succ n ih =>
    intro x1 x2 S
    rw [fX9_bits_L4]
    refine dj_iload_n C 1 rfl dX9_bits_4 ?_
    refine dj_if_eq (tgt := 20) C dX9_bits_5 (by decide) (fun c1 => ?_) (fun c1 => ?_)
    · refine dj_iload_n C 0 rfl dX9_bits_20 ?_
      exact dj_iret C dX9_bits_21
    · refine dj_iinc (lv2 := [(1, .int (x1 + 1)), (2, .int x2)]) C 0 rfl [0, 1] dX9_bits_8 dc_iconst_1 (by decide) rfl ?_
      refine dj_iload_n C 1 rfl dX9_bits_11 ?_
      refine dj_iload_n C 1 rfl dX9_bits_12 ?_
      refine dj_iconst C dX9_bits_13 dc_iconst_1 ?_
      refine dj_isub C dX9_bits_14 ?_
      refine dj_iand C dX9_bits_15 ?_
      refine dj_lti (fun y2 => ?_)
      refine dj_istore_n (lv2 := [(1, .int (x1 + 1)), (2, .int y2)]) C [1, 0] dX9_bits_16 rfl (by decide) rfl ?_
      refine dj_goto (tgt := 4) C dX9_bits_17 (by decide) ?_
      exact ih (x1 + 1) y2 S
set_option maxRecDepth 100000 in
set_option maxHeartbeats 4000000 in
theorem ct_X9_bits (l : Launch) (g : dk_G) (x0 : Int32) (S : dk_S)  : dk_M l g yX9_bits cX9_bits 3 (some .int) 0 0 [.int x0] S (fX9_bits x0 S) dk_qi := by
  refine dk_enter "DuckWalkModel" (by decide +kernel) rfl (Nat.le_of_ble_eq_true rfl) [(0, .int x0)] rfl ?_
  intro p e s m args below meth c C
  unfold fX9_bits
  refine dj_iconst C dX9_bits_0 dc_iconst_0 ?_
  refine dj_istore_n (lv2 := [(0, .int x0), (1, .int 0)]) C [1, 0] dX9_bits_1 rfl (by decide) rfl ?_
  refine dj_iload_n C 0 rfl dX9_bits_2 ?_
  refine dj_istore_n (lv2 := [(1, .int 0), (2, .int x0)]) C [2, 0] dX9_bits_3 rfl (by decide) rfl ?_
  refine jX9_bits_L4 C rfl dk_FU 0 x0 S
noncomputable def fX9_walker_L46 (x1 : Int32) (kx75 : dk_S → Option (Int32 × dk_S)) : Nat → Int32 → dk_S → Option (Int32 × dk_S)
  | 0, _, _ => none
  | n + 1, x3, S => if 7 ≤ x3 then kx75 S else dk_gd (dk_in x3 7) (dk_gd (dk_in ((7 * x1) + x3) 28) (dk_lt (dk_si S 90 ((7 * x1) + x3).toNatClampNeg (S.1 93 x3.toNatClampNeg)) (fun S12 => fX9_walker_L46 x1 kx75 n (x3 + 1) S12)))
noncomputable def fX9_walker (x1 : Int32) (x2 : Int32) (S : dk_S) : Option (Int32 × dk_S) := (fX9_isPlace x1 S).bind (fun r1 => if r1.1 = 0 then some ((-1), r1.2) else (fX9_isText x2 r1.2).bind (fun r3 => if r3.1 = 0 then some ((-1), r3.2) else dk_gd (dk_in x2 4) (if 0 ≤ (r3.2.1 87 x2.toNatClampNeg) then (fX9_walkerFault x2 r3.2).bind (fun r6 => if r6.1 = (-9) then fX9_walker_L46 x1 (fun t8 : dk_S => dk_gd (dk_in x1 4) (dk_lt (dk_si t8 89 x1.toNatClampNeg (vp_nar .boolean 1)) (fun S9 => (fX9_bits (S9.1 93 6) S9).bind (fun r10 => some (r10.1, r10.2))))) dk_FU 0 r6.2 else some ((-4), r6.2)) else (fX9_notes 1 r3.2).bind (fun r13 => some (r13.1, r13.2)))))
set_option maxRecDepth 100000 in
set_option maxHeartbeats 4000000 in
theorem jX9_walker_L46 {p : Program} {l : Launch} {e : Env} {R : Room} {s : State} {m : MethodId} {args : Array Value} {below : List Frame} {meth : Method} {c : Code} {g : dk_G} (C : dk_C p l e R s m args below meth c g cX9_walker "DuckWalkModel" 4 (some .int)) (hR : R = { frames := 4, cells := 0, slots := 0, locals := 89 }) (x1 : Int32) (kx75 : dk_S → Option (Int32 × dk_S))  (hkx75 : ∀ t : dk_S, dk_J p l e R s m args below meth c g 4 dk_qi 75 [(0, .ref (g.1 82)), (1, .int x1)] [] t (kx75 t) some) : ∀ (n : Nat) (x3 : Int32) (S : dk_S), dk_J p l e R s m args below meth c g 4 dk_qi 46 [(0, .ref (g.1 82)), (1, .int x1), (3, .int x3)] [] S (fX9_walker_L46 x1 kx75 n x3 S) some := by
  subst hR
  intro n
  induction n with
  | zero =>
    intro x3 S
    exact dj_none
  | succ n ih =>
    intro x3 S
    rw [fX9_walker_L46]
    refine dj_iload_n C 2 rfl dX9_walker_46 ?_
    refine dj_bipush C dX9_walker_47 dc_bipush_7 ?_
    refine dj_icmp_ge (tgt := 75) C dX9_walker_49 (by decide) (fun c11 => ?_) (fun c11 => ?_)
    · refine dj_sub (lv2 := [(0, .ref (g.1 82)), (1, .int x1)]) [0, 1] rfl ?_
      exact hkx75 S
    · refine dj_aload_n C 0 rfl dX9_walker_52 ?_
      refine dj_getr (r := 8) (k2 := 90) C dl_X9_33 rfl dz_82 rfl dX9_walker_53 ?_
      refine dj_bipush C dX9_walker_56 dc_bipush_7 ?_
      refine dj_iload_n C 1 rfl dX9_walker_58 ?_
      refine dj_imul C dX9_walker_59 ?_
      refine dj_iload_n C 2 rfl dX9_walker_60 ?_
      refine dj_iadd C dX9_walker_61 ?_
      refine dj_aload_n C 0 rfl dX9_walker_62 ?_
      refine dj_getr (r := 11) (k2 := 93) C dl_X9_42 rfl dz_82 rfl dX9_walker_63 ?_
      refine dj_iload_n C 2 rfl dX9_walker_66 ?_
      refine dj_iald (n := 7) C dz_93 (by decide) dX9_walker_67 ?_
      refine dj_iast (n := 28) C dz_90 (by decide) dX9_walker_68 (fun S12 => ?_)
      refine dj_iinc (lv2 := [(0, .ref (g.1 82)), (1, .int x1), (3, .int (x3 + 1))]) C 2 rfl [1, 2, 0] dX9_walker_69 dc_iconst_1 (by decide) rfl ?_
      refine dj_goto (tgt := 46) C dX9_walker_72 (by decide) ?_
      exact ih (x3 + 1) S12
set_option maxRecDepth 100000 in
set_option maxHeartbeats 4000000 in
theorem ct_X9_walker (l : Launch) (g : dk_G) (x1 : Int32) (x2 : Int32) (S : dk_S)  : dk_M l g yX9_walker cX9_walker 4 (some .int) 4 89 [.ref (g.1 82), .int x1, .int x2] S (fX9_walker x1 x2 S) dk_qi := by
  refine dk_enter "DuckWalkModel" (by decide +kernel) rfl (Nat.le_of_ble_eq_true rfl) [(0, .ref (g.1 82)), (1, .int x1), (2, .int x2)] rfl ?_
  intro p e s m args below meth c C
  unfold fX9_walker
  refine dj_iload_n C 1 rfl dX9_walker_0 ?_
  refine dj_callSi (As := [.int x1]) C dw_X9_139 (ct_X9_isPlace l g x1 S) ⟨Nat.le_of_ble_eq_true rfl, Nat.le_of_ble_eq_true rfl⟩ rfl (Nat.le_of_ble_eq_true rfl) rfl dX9_walker_1 (fun r1 => ?_)
  refine dj_if_eq (tgt := 14) C dX9_walker_4 (by decide) (fun c2 => ?_) (fun c2 => ?_)
  · refine dj_iconst C dX9_walker_14 dc_iconst_m1 ?_
    exact dj_iret C dX9_walker_15
  · refine dj_iload_n C 2 rfl dX9_walker_7 ?_
    refine dj_callSi (As := [.int x2]) C dw_X9_105 (ct_X9_isText l g x2 r1.2) ⟨Nat.le_of_ble_eq_true rfl, Nat.le_of_ble_eq_true rfl⟩ rfl (Nat.le_of_ble_eq_true rfl) rfl dX9_walker_8 (fun r3 => ?_)
    refine dj_if_ne (tgt := 16) C dX9_walker_11 (by decide) (fun c4 => ?_) (fun c4 => ?_)
    · refine dj_aload_n C 0 rfl dX9_walker_16 ?_
      refine dj_getr (r := 5) (k2 := 87) C dl_X9_22 rfl dz_82 rfl dX9_walker_17 ?_
      refine dj_iload_n C 2 rfl dX9_walker_20 ?_
      refine dj_iald (n := 4) C dz_87 (by decide) dX9_walker_21 ?_
      refine dj_if_ge (tgt := 31) C dX9_walker_22 (by decide) (fun c5 => ?_) (fun c5 => ?_)
      · refine dj_aload_n C 0 rfl dX9_walker_31 ?_
        refine dj_iload_n C 2 rfl dX9_walker_32 ?_
        refine dj_callVi (t := 9) (As := [.int x2]) C dw_X9_136 ⟨_, _, rfl⟩ (by decide) dz_82 (ct_X9_walkerFault l g x2 r3.2) ⟨Nat.le_of_ble_eq_true rfl, Nat.le_of_ble_eq_true rfl⟩ rfl (Nat.le_of_ble_eq_true rfl) rfl dX9_walker_33 (fun r6 => ?_)
        refine dj_bipush C dX9_walker_36 dc_bipush_m9 ?_
        refine dj_icmp_eq (tgt := 44) C dX9_walker_38 (by decide) (fun c7 => ?_) (fun c7 => ?_)
        · refine dj_iconst C dX9_walker_44 dc_iconst_0 ?_
          refine dj_istore_n (lv2 := [(0, .ref (g.1 82)), (1, .int x1), (3, .int 0)]) C [1, 2, 0] dX9_walker_45 rfl (by decide) rfl ?_
          refine jX9_walker_L46 C rfl x1 _ (fun t8 => ?_) dk_FU 0 r6.2
          · refine dj_aload_n C 0 rfl dX9_walker_75 ?_
            refine dj_getr (r := 7) (k2 := 89) C dl_X9_29 rfl dz_82 rfl dX9_walker_76 ?_
            refine dj_iload_n C 1 rfl dX9_walker_79 ?_
            refine dj_iconst C dX9_walker_80 dc_iconst_1 ?_
            refine dj_zast (n := 4) C dz_89 (by decide) dX9_walker_81 (fun S9 => ?_)
            refine dj_aload_n C 0 rfl dX9_walker_82 ?_
            refine dj_getr (r := 11) (k2 := 93) C dl_X9_42 rfl dz_82 rfl dX9_walker_83 ?_
            refine dj_bipush C dX9_walker_86 dc_bipush_6 ?_
            refine dj_ialdn (n := 7) (j := 6) C dz_93 (by decide) (by decide) (by decide) dX9_walker_88 ?_
            refine dj_callSi (As := [.int (S9.1 93 6)]) C dw_X9_142 (ct_X9_bits l g (S9.1 93 6) S9) ⟨Nat.le_of_ble_eq_true rfl, Nat.le_of_ble_eq_true rfl⟩ rfl (Nat.le_of_ble_eq_true rfl) rfl dX9_walker_89 (fun r10 => ?_)
            exact dj_iret C dX9_walker_92
        · refine dj_bipush C dX9_walker_41 dc_bipush_m4 ?_
          exact dj_iret C dX9_walker_43
      · refine dj_aload_n C 0 rfl dX9_walker_25 ?_
        refine dj_iconst C dX9_walker_26 dc_iconst_1 ?_
        refine dj_callVi (t := 9) (As := [.int 1]) C dw_X9_94 ⟨_, _, rfl⟩ (by decide) dz_82 (ct_X9_notes l g 1 r3.2) ⟨Nat.le_of_ble_eq_true rfl, Nat.le_of_ble_eq_true rfl⟩ rfl (Nat.le_of_ble_eq_true rfl) rfl dX9_walker_27 (fun r13 => ?_)
        exact dj_iret C dX9_walker_30
    · refine dj_iconst C dX9_walker_14 dc_iconst_m1 ?_
      exact dj_iret C dX9_walker_15
noncomputable def fX9_board_L46 (x1 : Int32) (kx75 : dk_S → Option (Int32 × dk_S)) : Nat → Int32 → dk_S → Option (Int32 × dk_S)
  | 0, _, _ => none
  | n + 1, x3, S => if 101 ≤ x3 then kx75 S else dk_gd (dk_in x3 101) (dk_gd (dk_in ((101 * x1) + x3) 404) (dk_lt (dk_si S 92 ((101 * x1) + x3).toNatClampNeg (S.1 94 x3.toNatClampNeg)) (fun S11 => fX9_board_L46 x1 kx75 n (x3 + 1) S11)))
noncomputable def fX9_board (x1 : Int32) (x2 : Int32) (S : dk_S) : Option (Int32 × dk_S) := (fX9_isPlace x1 S).bind (fun r1 => if r1.1 = 0 then some ((-1), r1.2) else (fX9_isText x2 r1.2).bind (fun r3 => if r3.1 = 0 then some ((-1), r3.2) else dk_gd (dk_in x2 4) (if 0 ≤ (r3.2.1 87 x2.toNatClampNeg) then (fX9_boardFault x2 r3.2).bind (fun r6 => if r6.1 = (-9) then fX9_board_L46 x1 (fun t8 : dk_S => dk_gd (dk_in x1 4) (dk_lt (dk_si t8 91 x1.toNatClampNeg (vp_nar .boolean 1)) (fun S9 => some (S9.1 82 16, S9)))) dk_FU 0 r6.2 else some ((-4), r6.2)) else (fX9_notes 1 r3.2).bind (fun r12 => some (r12.1, r12.2)))))
set_option maxRecDepth 100000 in
set_option maxHeartbeats 4000000 in
theorem jX9_board_L46 {p : Program} {l : Launch} {e : Env} {R : Room} {s : State} {m : MethodId} {args : Array Value} {below : List Frame} {meth : Method} {c : Code} {g : dk_G} (C : dk_C p l e R s m args below meth c g cX9_board "DuckWalkModel" 4 (some .int)) (hR : R = { frames := 4, cells := 0, slots := 0, locals := 90 }) (x1 : Int32) (kx75 : dk_S → Option (Int32 × dk_S))  (hkx75 : ∀ t : dk_S, dk_J p l e R s m args below meth c g 4 dk_qi 75 [(0, .ref (g.1 82)), (1, .int x1)] [] t (kx75 t) some) : ∀ (n : Nat) (x3 : Int32) (S : dk_S), dk_J p l e R s m args below meth c g 4 dk_qi 46 [(0, .ref (g.1 82)), (1, .int x1), (3, .int x3)] [] S (fX9_board_L46 x1 kx75 n x3 S) some := by
  subst hR
  intro n
  induction n with
  | zero =>
    intro x3 S
    exact dj_none
  | succ n ih =>
    intro x3 S
    rw [fX9_board_L46]
    refine dj_iload_n C 2 rfl dX9_board_46 ?_
    refine dj_bipush C dX9_board_47 dc_bipush_101 ?_
    refine dj_icmp_ge (tgt := 75) C dX9_board_49 (by decide) (fun c10 => ?_) (fun c10 => ?_)
    · refine dj_sub (lv2 := [(0, .ref (g.1 82)), (1, .int x1)]) [0, 1] rfl ?_
      exact hkx75 S
    · refine dj_aload_n C 0 rfl dX9_board_52 ?_
      refine dj_getr (r := 10) (k2 := 92) C dl_X9_39 rfl dz_82 rfl dX9_board_53 ?_
      refine dj_bipush C dX9_board_56 dc_bipush_101 ?_
      refine dj_iload_n C 1 rfl dX9_board_58 ?_
      refine dj_imul C dX9_board_59 ?_
      refine dj_iload_n C 2 rfl dX9_board_60 ?_
      refine dj_iadd C dX9_board_61 ?_
      refine dj_aload_n C 0 rfl dX9_board_62 ?_
      refine dj_getr (r := 12) (k2 := 94) C dl_X9_45 rfl dz_82 rfl dX9_board_63 ?_
      refine dj_iload_n C 2 rfl dX9_board_66 ?_
      refine dj_iald (n := 101) C dz_94 (by decide) dX9_board_67 ?_
      refine dj_iast (n := 404) C dz_92 (by decide) dX9_board_68 (fun S11 => ?_)
      refine dj_iinc (lv2 := [(0, .ref (g.1 82)), (1, .int x1), (3, .int (x3 + 1))]) C 2 rfl [1, 2, 0] dX9_board_69 dc_iconst_1 (by decide) rfl ?_
      refine dj_goto (tgt := 46) C dX9_board_72 (by decide) ?_
      exact ih (x3 + 1) S11
set_option maxRecDepth 100000 in
set_option maxHeartbeats 4000000 in
theorem ct_X9_board (l : Launch) (g : dk_G) (x1 : Int32) (x2 : Int32) (S : dk_S)  : dk_M l g yX9_board cX9_board 4 (some .int) 4 90 [.ref (g.1 82), .int x1, .int x2] S (fX9_board x1 x2 S) dk_qi := by
  refine dk_enter "DuckWalkModel" (by decide +kernel) rfl (Nat.le_of_ble_eq_true rfl) [(0, .ref (g.1 82)), (1, .int x1), (2, .int x2)] rfl ?_
  intro p e s m args below meth c C
  unfold fX9_board
  refine dj_iload_n C 1 rfl dX9_board_0 ?_
  refine dj_callSi (As := [.int x1]) C dw_X9_139 (ct_X9_isPlace l g x1 S) ⟨Nat.le_of_ble_eq_true rfl, Nat.le_of_ble_eq_true rfl⟩ rfl (Nat.le_of_ble_eq_true rfl) rfl dX9_board_1 (fun r1 => ?_)
  refine dj_if_eq (tgt := 14) C dX9_board_4 (by decide) (fun c2 => ?_) (fun c2 => ?_)
  · refine dj_iconst C dX9_board_14 dc_iconst_m1 ?_
    exact dj_iret C dX9_board_15
  · refine dj_iload_n C 2 rfl dX9_board_7 ?_
    refine dj_callSi (As := [.int x2]) C dw_X9_105 (ct_X9_isText l g x2 r1.2) ⟨Nat.le_of_ble_eq_true rfl, Nat.le_of_ble_eq_true rfl⟩ rfl (Nat.le_of_ble_eq_true rfl) rfl dX9_board_8 (fun r3 => ?_)
    refine dj_if_ne (tgt := 16) C dX9_board_11 (by decide) (fun c4 => ?_) (fun c4 => ?_)
    · refine dj_aload_n C 0 rfl dX9_board_16 ?_
      refine dj_getr (r := 5) (k2 := 87) C dl_X9_22 rfl dz_82 rfl dX9_board_17 ?_
      refine dj_iload_n C 2 rfl dX9_board_20 ?_
      refine dj_iald (n := 4) C dz_87 (by decide) dX9_board_21 ?_
      refine dj_if_ge (tgt := 31) C dX9_board_22 (by decide) (fun c5 => ?_) (fun c5 => ?_)
      · refine dj_aload_n C 0 rfl dX9_board_31 ?_
        refine dj_iload_n C 2 rfl dX9_board_32 ?_
        refine dj_callVi (t := 9) (As := [.int x2]) C dw_X9_133 ⟨_, _, rfl⟩ (by decide) dz_82 (ct_X9_boardFault l g x2 r3.2) ⟨Nat.le_of_ble_eq_true rfl, Nat.le_of_ble_eq_true rfl⟩ rfl (Nat.le_of_ble_eq_true rfl) rfl dX9_board_33 (fun r6 => ?_)
        refine dj_bipush C dX9_board_36 dc_bipush_m9 ?_
        refine dj_icmp_eq (tgt := 44) C dX9_board_38 (by decide) (fun c7 => ?_) (fun c7 => ?_)
        · refine dj_iconst C dX9_board_44 dc_iconst_0 ?_
          refine dj_istore_n (lv2 := [(0, .ref (g.1 82)), (1, .int x1), (3, .int 0)]) C [1, 2, 0] dX9_board_45 rfl (by decide) rfl ?_
          refine jX9_board_L46 C rfl x1 _ (fun t8 => ?_) dk_FU 0 r6.2
          · refine dj_aload_n C 0 rfl dX9_board_75 ?_
            refine dj_getr (r := 9) (k2 := 91) C dl_X9_36 rfl dz_82 rfl dX9_board_76 ?_
            refine dj_iload_n C 1 rfl dX9_board_79 ?_
            refine dj_iconst C dX9_board_80 dc_iconst_1 ?_
            refine dj_zast (n := 4) C dz_91 (by decide) dX9_board_81 (fun S9 => ?_)
            refine dj_aload_n C 0 rfl dX9_board_82 ?_
            refine dj_geti C dl_X9_127 rfl dz_82 dX9_board_83 ?_
            exact dj_iret C dX9_board_86
        · refine dj_bipush C dX9_board_41 dc_bipush_m4 ?_
          exact dj_iret C dX9_board_43
      · refine dj_aload_n C 0 rfl dX9_board_25 ?_
        refine dj_iconst C dX9_board_26 dc_iconst_1 ?_
        refine dj_callVi (t := 9) (As := [.int 1]) C dw_X9_94 ⟨_, _, rfl⟩ (by decide) dz_82 (ct_X9_notes l g 1 r3.2) ⟨Nat.le_of_ble_eq_true rfl, Nat.le_of_ble_eq_true rfl⟩ rfl (Nat.le_of_ble_eq_true rfl) rfl dX9_board_27 (fun r12 => ?_)
        exact dj_iret C dX9_board_30
    · refine dj_iconst C dX9_board_14 dc_iconst_m1 ?_
      exact dj_iret C dX9_board_15
noncomputable def fX9_about (x1 : Int32) (x2 : Int32) (S : dk_S) : Option (Int32 × dk_S) := (fX9_isPlace x1 S).bind (fun r1 => if r1.1 = 0 then some ((-1), r1.2) else (fX9_in x2 0 6 r1.2).bind (fun r3 => if r3.1 = 0 then some ((-1), r3.2) else dk_gd (dk_in x1 4) (if (r3.2.1 89 x1.toNatClampNeg) = 0 then (fX9_notes 1 r3.2).bind (fun r6 => some (r6.1, r6.2)) else dk_gd (dk_in ((7 * x1) + x2) 28) ((fX9_tells (r3.2.1 90 ((7 * x1) + x2).toNatClampNeg) 1 r3.2).bind (fun r7 => some (r7.1, r7.2))))))
set_option maxRecDepth 100000 in
set_option maxHeartbeats 4000000 in
theorem ct_X9_about (l : Launch) (g : dk_G) (x1 : Int32) (x2 : Int32) (S : dk_S)  : dk_M l g yX9_about cX9_about 3 (some .int) 2 42 [.ref (g.1 82), .int x1, .int x2] S (fX9_about x1 x2 S) dk_qi := by
  refine dk_enter "DuckWalkModel" (by decide +kernel) rfl (Nat.le_of_ble_eq_true rfl) [(0, .ref (g.1 82)), (1, .int x1), (2, .int x2)] rfl ?_
  intro p e s m args below meth c C
  unfold fX9_about
  refine dj_iload_n C 1 rfl dX9_about_0 ?_
  refine dj_callSi (As := [.int x1]) C dw_X9_139 (ct_X9_isPlace l g x1 S) ⟨Nat.le_of_ble_eq_true rfl, Nat.le_of_ble_eq_true rfl⟩ rfl (Nat.le_of_ble_eq_true rfl) rfl dX9_about_1 (fun r1 => ?_)
  refine dj_if_eq (tgt := 17) C dX9_about_4 (by decide) (fun c2 => ?_) (fun c2 => ?_)
  · refine dj_iconst C dX9_about_17 dc_iconst_m1 ?_
    exact dj_iret C dX9_about_18
  · refine dj_iload_n C 2 rfl dX9_about_7 ?_
    refine dj_iconst C dX9_about_8 dc_iconst_0 ?_
    refine dj_bipush C dX9_about_9 dc_bipush_6 ?_
    refine dj_callSi (As := [.int x2, .int 0, .int 6]) C dw_X9_80 (ct_X9_in l g x2 0 6 r1.2) ⟨Nat.le_of_ble_eq_true rfl, Nat.le_of_ble_eq_true rfl⟩ rfl (Nat.le_of_ble_eq_true rfl) rfl dX9_about_11 (fun r3 => ?_)
    refine dj_if_ne (tgt := 19) C dX9_about_14 (by decide) (fun c4 => ?_) (fun c4 => ?_)
    · refine dj_aload_n C 0 rfl dX9_about_19 ?_
      refine dj_getr (r := 7) (k2 := 89) C dl_X9_29 rfl dz_82 rfl dX9_about_20 ?_
      refine dj_iload_n C 1 rfl dX9_about_23 ?_
      refine dj_zald (n := 4) C dz_89 (by decide) dX9_about_24 ?_
      refine dj_if_eq (tgt := 47) C dX9_about_25 (by decide) (fun c5 => ?_) (fun c5 => ?_)
      · refine dj_aload_n C 0 rfl dX9_about_47 ?_
        refine dj_iconst C dX9_about_48 dc_iconst_1 ?_
        refine dj_callVi (t := 9) (As := [.int 1]) C dw_X9_94 ⟨_, _, rfl⟩ (by decide) dz_82 (ct_X9_notes l g 1 r3.2) ⟨Nat.le_of_ble_eq_true rfl, Nat.le_of_ble_eq_true rfl⟩ rfl (Nat.le_of_ble_eq_true rfl) rfl dX9_about_49 (fun r6 => ?_)
        exact dj_iret C dX9_about_52
      · refine dj_aload_n C 0 rfl dX9_about_28 ?_
        refine dj_aload_n C 0 rfl dX9_about_29 ?_
        refine dj_getr (r := 8) (k2 := 90) C dl_X9_33 rfl dz_82 rfl dX9_about_30 ?_
        refine dj_bipush C dX9_about_33 dc_bipush_7 ?_
        refine dj_iload_n C 1 rfl dX9_about_35 ?_
        refine dj_imul C dX9_about_36 ?_
        refine dj_iload_n C 2 rfl dX9_about_37 ?_
        refine dj_iadd C dX9_about_38 ?_
        refine dj_iald (n := 28) C dz_90 (by decide) dX9_about_39 ?_
        refine dj_iconst C dX9_about_40 dc_iconst_1 ?_
        refine dj_callVi (t := 9) (As := [.int (r3.2.1 90 ((7 * x1) + x2).toNatClampNeg), .int 1]) C dw_X9_102 ⟨_, _, rfl⟩ (by decide) dz_82 (ct_X9_tells l g (r3.2.1 90 ((7 * x1) + x2).toNatClampNeg) 1 r3.2) ⟨Nat.le_of_ble_eq_true rfl, Nat.le_of_ble_eq_true rfl⟩ rfl (Nat.le_of_ble_eq_true rfl) rfl dX9_about_41 (fun r7 => ?_)
        refine dj_goto (tgt := 52) C dX9_about_44 (by decide) ?_
        exact dj_iret C dX9_about_52
    · refine dj_iconst C dX9_about_17 dc_iconst_m1 ?_
      exact dj_iret C dX9_about_18
noncomputable def fX9_rub (x1 : Int32) (x2 : Int32) (S : dk_S) : Option (Int32 × dk_S) := (fX9_isPlace x1 S).bind (fun r1 => if r1.1 = 0 then some ((-1), r1.2) else (fX9_in x2 0 99 r1.2).bind (fun r3 => if r3.1 = 0 then some ((-1), r3.2) else dk_gd (dk_in x1 4) (if (r3.2.1 91 x1.toNatClampNeg) = 0 then (fX9_notes 1 r3.2).bind (fun r6 => some (r6.1, r6.2)) else dk_gd (dk_in (((101 * x1) + 1) + x2) 404) (dk_gd (dk_in (101 * x1) 404) ((fX9_tells (r3.2.1 92 (((101 * x1) + 1) + x2).toNatClampNeg) (r3.2.1 92 (101 * x1).toNatClampNeg) r3.2).bind (fun r7 => some (r7.1, r7.2)))))))
set_option maxRecDepth 100000 in
set_option maxHeartbeats 4000000 in
theorem ct_X9_rub (l : Launch) (g : dk_G) (x1 : Int32) (x2 : Int32) (S : dk_S)  : dk_M l g yX9_rub cX9_rub 3 (some .int) 2 42 [.ref (g.1 82), .int x1, .int x2] S (fX9_rub x1 x2 S) dk_qi := by
  refine dk_enter "DuckWalkModel" (by decide +kernel) rfl (Nat.le_of_ble_eq_true rfl) [(0, .ref (g.1 82)), (1, .int x1), (2, .int x2)] rfl ?_
  intro p e s m args below meth c C
  unfold fX9_rub
  refine dj_iload_n C 1 rfl dX9_rub_0 ?_
  refine dj_callSi (As := [.int x1]) C dw_X9_139 (ct_X9_isPlace l g x1 S) ⟨Nat.le_of_ble_eq_true rfl, Nat.le_of_ble_eq_true rfl⟩ rfl (Nat.le_of_ble_eq_true rfl) rfl dX9_rub_1 (fun r1 => ?_)
  refine dj_if_eq (tgt := 17) C dX9_rub_4 (by decide) (fun c2 => ?_) (fun c2 => ?_)
  · refine dj_iconst C dX9_rub_17 dc_iconst_m1 ?_
    exact dj_iret C dX9_rub_18
  · refine dj_iload_n C 2 rfl dX9_rub_7 ?_
    refine dj_iconst C dX9_rub_8 dc_iconst_0 ?_
    refine dj_bipush C dX9_rub_9 dc_bipush_99 ?_
    refine dj_callSi (As := [.int x2, .int 0, .int 99]) C dw_X9_80 (ct_X9_in l g x2 0 99 r1.2) ⟨Nat.le_of_ble_eq_true rfl, Nat.le_of_ble_eq_true rfl⟩ rfl (Nat.le_of_ble_eq_true rfl) rfl dX9_rub_11 (fun r3 => ?_)
    refine dj_if_ne (tgt := 19) C dX9_rub_14 (by decide) (fun c4 => ?_) (fun c4 => ?_)
    · refine dj_aload_n C 0 rfl dX9_rub_19 ?_
      refine dj_getr (r := 9) (k2 := 91) C dl_X9_36 rfl dz_82 rfl dX9_rub_20 ?_
      refine dj_iload_n C 1 rfl dX9_rub_23 ?_
      refine dj_zald (n := 4) C dz_91 (by decide) dX9_rub_24 ?_
      refine dj_if_eq (tgt := 57) C dX9_rub_25 (by decide) (fun c5 => ?_) (fun c5 => ?_)
      · refine dj_aload_n C 0 rfl dX9_rub_57 ?_
        refine dj_iconst C dX9_rub_58 dc_iconst_1 ?_
        refine dj_callVi (t := 9) (As := [.int 1]) C dw_X9_94 ⟨_, _, rfl⟩ (by decide) dz_82 (ct_X9_notes l g 1 r3.2) ⟨Nat.le_of_ble_eq_true rfl, Nat.le_of_ble_eq_true rfl⟩ rfl (Nat.le_of_ble_eq_true rfl) rfl dX9_rub_59 (fun r6 => ?_)
        exact dj_iret C dX9_rub_62
      · refine dj_aload_n C 0 rfl dX9_rub_28 ?_
        refine dj_aload_n C 0 rfl dX9_rub_29 ?_
        refine dj_getr (r := 10) (k2 := 92) C dl_X9_39 rfl dz_82 rfl dX9_rub_30 ?_
        refine dj_bipush C dX9_rub_33 dc_bipush_101 ?_
        refine dj_iload_n C 1 rfl dX9_rub_35 ?_
        refine dj_imul C dX9_rub_36 ?_
        refine dj_iconst C dX9_rub_37 dc_iconst_1 ?_
        refine dj_iadd C dX9_rub_38 ?_
        refine dj_iload_n C 2 rfl dX9_rub_39 ?_
        refine dj_iadd C dX9_rub_40 ?_
        refine dj_iald (n := 404) C dz_92 (by decide) dX9_rub_41 ?_
        refine dj_aload_n C 0 rfl dX9_rub_42 ?_
        refine dj_getr (r := 10) (k2 := 92) C dl_X9_39 rfl dz_82 rfl dX9_rub_43 ?_
        refine dj_bipush C dX9_rub_46 dc_bipush_101 ?_
        refine dj_iload_n C 1 rfl dX9_rub_48 ?_
        refine dj_imul C dX9_rub_49 ?_
        refine dj_iald (n := 404) C dz_92 (by decide) dX9_rub_50 ?_
        refine dj_callVi (t := 9) (As := [.int (r3.2.1 92 (((101 * x1) + 1) + x2).toNatClampNeg), .int (r3.2.1 92 (101 * x1).toNatClampNeg)]) C dw_X9_102 ⟨_, _, rfl⟩ (by decide) dz_82 (ct_X9_tells l g (r3.2.1 92 (((101 * x1) + 1) + x2).toNatClampNeg) (r3.2.1 92 (101 * x1).toNatClampNeg) r3.2) ⟨Nat.le_of_ble_eq_true rfl, Nat.le_of_ble_eq_true rfl⟩ rfl (Nat.le_of_ble_eq_true rfl) rfl dX9_rub_51 (fun r7 => ?_)
        refine dj_goto (tgt := 62) C dX9_rub_54 (by decide) ?_
        exact dj_iret C dX9_rub_62
    · refine dj_iconst C dX9_rub_17 dc_iconst_m1 ?_
      exact dj_iret C dX9_rub_18
noncomputable def fX9_wax (x1 : Int32) (x2 : Int32) (x3 : Int32) (S : dk_S) : Option (Int32 × dk_S) := (fX9_isPlace x1 S).bind (fun r1 => if r1.1 = 0 then some ((-1), r1.2) else (fX9_in x2 0 1 r1.2).bind (fun r3 => if r3.1 = 0 then some ((-1), r3.2) else (fX9_in x3 0 9 r3.2).bind (fun r5 => if r5.1 = 0 then some ((-1), r5.2) else dk_gd (dk_in x1 4) (if (r5.2.1 89 x1.toNatClampNeg) = 0 then (fX9_notes 1 r5.2).bind (fun r10 => some (r10.1, r10.2)) else dk_gd (dk_in (((7 * x1) + 4) + x2) 28) (dk_lt (r5.2.1 90 (((7 * x1) + 4) + x2).toNatClampNeg) (fun y8 : Int32 => dk_gd (dk_in (((7 * x1) + 4) + x2) 28) (dk_lt (dk_si r5.2 90 (((7 * x1) + 4) + x2).toNatClampNeg x3) (fun S9 => some (y8, S9)))))))))
set_option maxRecDepth 100000 in
set_option maxHeartbeats 4000000 in
theorem ct_X9_wax (l : Launch) (g : dk_G) (x1 : Int32) (x2 : Int32) (x3 : Int32) (S : dk_S)  : dk_M l g yX9_wax cX9_wax 5 (some .int) 2 42 [.ref (g.1 82), .int x1, .int x2, .int x3] S (fX9_wax x1 x2 x3 S) dk_qi := by
  refine dk_enter "DuckWalkModel" (by decide +kernel) rfl (Nat.le_of_ble_eq_true rfl) [(0, .ref (g.1 82)), (1, .int x1), (2, .int x2), (3, .int x3)] rfl ?_
  intro p e s m args below meth c C
  unfold fX9_wax
  refine dj_iload_n C 1 rfl dX9_wax_0 ?_
  refine dj_callSi (As := [.int x1]) C dw_X9_139 (ct_X9_isPlace l g x1 S) ⟨Nat.le_of_ble_eq_true rfl, Nat.le_of_ble_eq_true rfl⟩ rfl (Nat.le_of_ble_eq_true rfl) rfl dX9_wax_1 (fun r1 => ?_)
  refine dj_if_eq (tgt := 26) C dX9_wax_4 (by decide) (fun c2 => ?_) (fun c2 => ?_)
  · refine dj_iconst C dX9_wax_26 dc_iconst_m1 ?_
    exact dj_iret C dX9_wax_27
  · refine dj_iload_n C 2 rfl dX9_wax_7 ?_
    refine dj_iconst C dX9_wax_8 dc_iconst_0 ?_
    refine dj_iconst C dX9_wax_9 dc_iconst_1 ?_
    refine dj_callSi (As := [.int x2, .int 0, .int 1]) C dw_X9_80 (ct_X9_in l g x2 0 1 r1.2) ⟨Nat.le_of_ble_eq_true rfl, Nat.le_of_ble_eq_true rfl⟩ rfl (Nat.le_of_ble_eq_true rfl) rfl dX9_wax_10 (fun r3 => ?_)
    refine dj_if_eq (tgt := 26) C dX9_wax_13 (by decide) (fun c4 => ?_) (fun c4 => ?_)
    · refine dj_iconst C dX9_wax_26 dc_iconst_m1 ?_
      exact dj_iret C dX9_wax_27
    · refine dj_iload_n C 3 rfl dX9_wax_16 ?_
      refine dj_iconst C dX9_wax_17 dc_iconst_0 ?_
      refine dj_bipush C dX9_wax_18 dc_bipush_9 ?_
      refine dj_callSi (As := [.int x3, .int 0, .int 9]) C dw_X9_80 (ct_X9_in l g x3 0 9 r3.2) ⟨Nat.le_of_ble_eq_true rfl, Nat.le_of_ble_eq_true rfl⟩ rfl (Nat.le_of_ble_eq_true rfl) rfl dX9_wax_20 (fun r5 => ?_)
      refine dj_if_ne (tgt := 28) C dX9_wax_23 (by decide) (fun c6 => ?_) (fun c6 => ?_)
      · refine dj_aload_n C 0 rfl dX9_wax_28 ?_
        refine dj_getr (r := 7) (k2 := 89) C dl_X9_29 rfl dz_82 rfl dX9_wax_29 ?_
        refine dj_iload_n C 1 rfl dX9_wax_32 ?_
        refine dj_zald (n := 4) C dz_89 (by decide) dX9_wax_33 ?_
        refine dj_if_ne (tgt := 43) C dX9_wax_34 (by decide) (fun c7 => ?_) (fun c7 => ?_)
        · refine dj_aload_n C 0 rfl dX9_wax_43 ?_
          refine dj_getr (r := 8) (k2 := 90) C dl_X9_33 rfl dz_82 rfl dX9_wax_44 ?_
          refine dj_bipush C dX9_wax_47 dc_bipush_7 ?_
          refine dj_iload_n C 1 rfl dX9_wax_49 ?_
          refine dj_imul C dX9_wax_50 ?_
          refine dj_iconst C dX9_wax_51 dc_iconst_4 ?_
          refine dj_iadd C dX9_wax_52 ?_
          refine dj_iload_n C 2 rfl dX9_wax_53 ?_
          refine dj_iadd C dX9_wax_54 ?_
          refine dj_iald (n := 28) C dz_90 (by decide) dX9_wax_55 ?_
          refine dj_lti (fun y8 => ?_)
          refine dj_istore (lv2 := [(0, .ref (g.1 82)), (1, .int x1), (2, .int x2), (3, .int x3), (4, .int y8)]) C [1, 2, 3, 4, 0] dX9_wax_56 (by decide) rfl ?_
          refine dj_aload_n C 0 rfl dX9_wax_58 ?_
          refine dj_getr (r := 8) (k2 := 90) C dl_X9_33 rfl dz_82 rfl dX9_wax_59 ?_
          refine dj_bipush C dX9_wax_62 dc_bipush_7 ?_
          refine dj_iload_n C 1 rfl dX9_wax_64 ?_
          refine dj_imul C dX9_wax_65 ?_
          refine dj_iconst C dX9_wax_66 dc_iconst_4 ?_
          refine dj_iadd C dX9_wax_67 ?_
          refine dj_iload_n C 2 rfl dX9_wax_68 ?_
          refine dj_iadd C dX9_wax_69 ?_
          refine dj_iload_n C 3 rfl dX9_wax_70 ?_
          refine dj_iast (n := 28) C dz_90 (by decide) dX9_wax_71 (fun S9 => ?_)
          refine dj_iload C 4 rfl dX9_wax_72 ?_
          exact dj_iret C dX9_wax_74
        · refine dj_aload_n C 0 rfl dX9_wax_37 ?_
          refine dj_iconst C dX9_wax_38 dc_iconst_1 ?_
          refine dj_callVi (t := 9) (As := [.int 1]) C dw_X9_94 ⟨_, _, rfl⟩ (by decide) dz_82 (ct_X9_notes l g 1 r5.2) ⟨Nat.le_of_ble_eq_true rfl, Nat.le_of_ble_eq_true rfl⟩ rfl (Nat.le_of_ble_eq_true rfl) rfl dX9_wax_39 (fun r10 => ?_)
          exact dj_iret C dX9_wax_42
      · refine dj_iconst C dX9_wax_26 dc_iconst_m1 ?_
        exact dj_iret C dX9_wax_27
noncomputable def fX9_looksAt_L3 (x1 : Int32) (x2 : Int32) (x3 : Int32) (kx35 : dk_S → Option (dk_S)) : Nat → Int32 → dk_S → Option (dk_S)
  | 0, _, _ => none
  | n + 1, x4, S => if 6 ≤ x4 then kx35 S else dk_gd (dk_in ((7 * x1) + x4) 28) (dk_gd (dk_in x4 6) (dk_lt (dk_si S 95 x4.toNatClampNeg (S.1 90 ((7 * x1) + x4).toNatClampNeg)) (fun S8 => fX9_looksAt_L3 x1 x2 x3 kx35 n (x4 + 1) S8)))
noncomputable def fX9_looksAt (x1 : Int32) (x2 : Int32) (x3 : Int32) (S : dk_S) : Option (dk_S) := fX9_looksAt_L3 x1 x2 x3 (fun t1 : dk_S => dk_gd (dk_in (101 * x2) 404) (dk_lt (dk_si t1 82 20 (t1.1 92 (101 * x2).toNatClampNeg)) (fun S2 => dk_lt (dk_si S2 82 21 x3) (fun S3 => dk_lt (dk_si S3 96 0 0) (fun S4 => dk_lt (dk_si S4 96 1 0) (fun S5 => dk_lt (dk_si S5 82 23 (-9)) (fun S6 => some S6))))))) dk_FU 0 S
set_option maxRecDepth 100000 in
set_option maxHeartbeats 4000000 in
theorem jX9_looksAt_L3 {p : Program} {l : Launch} {e : Env} {R : Room} {s : State} {m : MethodId} {args : Array Value} {below : List Frame} {meth : Method} {c : Code} {g : dk_G} (C : dk_C p l e R s m args below meth c g cX9_looksAt "DuckWalkModel" 5 none) (hR : R = { frames := 0, cells := 0, slots := 0, locals := 0 }) (x1 : Int32) (x2 : Int32) (x3 : Int32) (kx35 : dk_S → Option (dk_S))  (hkx35 : ∀ t : dk_S, dk_J p l e R s m args below meth c g 5 dk_qv 35 [(0, .ref (g.1 82)), (2, .int x2), (3, .int x3)] [] t (kx35 t) some) : ∀ (n : Nat) (x4 : Int32) (S : dk_S), dk_J p l e R s m args below meth c g 5 dk_qv 3 [(0, .ref (g.1 82)), (1, .int x1), (2, .int x2), (3, .int x3), (4, .int x4)] [] S (fX9_looksAt_L3 x1 x2 x3 kx35 n x4 S) some := by
  subst hR
  intro n
  induction n with
  | zero =>
    intro x4 S
    exact dj_none
  | succ n ih =>
    intro x4 S
    rw [fX9_looksAt_L3]
    refine dj_iload C 4 rfl dX9_looksAt_3 ?_
    refine dj_bipush C dX9_looksAt_5 dc_bipush_6 ?_
    refine dj_icmp_ge (tgt := 35) C dX9_looksAt_7 (by decide) (fun c7 => ?_) (fun c7 => ?_)
    · refine dj_sub (lv2 := [(0, .ref (g.1 82)), (2, .int x2), (3, .int x3)]) [0, 2, 3] rfl ?_
      exact hkx35 S
    · refine dj_aload_n C 0 rfl dX9_looksAt_10 ?_
      refine dj_getr (r := 13) (k2 := 95) C dl_X9_48 rfl dz_82 rfl dX9_looksAt_11 ?_
      refine dj_iload C 4 rfl dX9_looksAt_14 ?_
      refine dj_aload_n C 0 rfl dX9_looksAt_16 ?_
      refine dj_getr (r := 8) (k2 := 90) C dl_X9_33 rfl dz_82 rfl dX9_looksAt_17 ?_
      refine dj_bipush C dX9_looksAt_20 dc_bipush_7 ?_
      refine dj_iload_n C 1 rfl dX9_looksAt_22 ?_
      refine dj_imul C dX9_looksAt_23 ?_
      refine dj_iload C 4 rfl dX9_looksAt_24 ?_
      refine dj_iadd C dX9_looksAt_26 ?_
      refine dj_iald (n := 28) C dz_90 (by decide) dX9_looksAt_27 ?_
      refine dj_iast (n := 6) C dz_95 (by decide) dX9_looksAt_28 (fun S8 => ?_)
      refine dj_iinc (lv2 := [(0, .ref (g.1 82)), (1, .int x1), (2, .int x2), (3, .int x3), (4, .int (x4 + 1))]) C 4 rfl [1, 2, 3, 4, 0] dX9_looksAt_29 dc_iconst_1 (by decide) rfl ?_
      refine dj_goto (tgt := 3) C dX9_looksAt_32 (by decide) ?_
      exact ih (x4 + 1) S8
set_option maxRecDepth 100000 in
set_option maxHeartbeats 4000000 in
theorem ct_X9_looksAt (l : Launch) (g : dk_G) (x1 : Int32) (x2 : Int32) (x3 : Int32) (S : dk_S)  : dk_M l g yX9_looksAt cX9_looksAt 5 none 0 0 [.ref (g.1 82), .int x1, .int x2, .int x3] S (fX9_looksAt x1 x2 x3 S) dk_qv := by
  refine dk_enter "DuckWalkModel" (by decide +kernel) rfl (Nat.le_of_ble_eq_true rfl) [(0, .ref (g.1 82)), (1, .int x1), (2, .int x2), (3, .int x3)] rfl ?_
  intro p e s m args below meth c C
  unfold fX9_looksAt
  refine dj_iconst C dX9_looksAt_0 dc_iconst_0 ?_
  refine dj_istore (lv2 := [(0, .ref (g.1 82)), (1, .int x1), (2, .int x2), (3, .int x3), (4, .int 0)]) C [1, 2, 3, 4, 0] dX9_looksAt_1 (by decide) rfl ?_
  refine jX9_looksAt_L3 C rfl x1 x2 x3 _ (fun t1 => ?_) dk_FU 0 S
  · refine dj_aload_n C 0 rfl dX9_looksAt_35 ?_
    refine dj_aload_n C 0 rfl dX9_looksAt_36 ?_
    refine dj_getr (r := 10) (k2 := 92) C dl_X9_39 rfl dz_82 rfl dX9_looksAt_37 ?_
    refine dj_bipush C dX9_looksAt_40 dc_bipush_101 ?_
    refine dj_iload_n C 1 rfl dX9_looksAt_42 ?_
    refine dj_imul C dX9_looksAt_43 ?_
    refine dj_iald (n := 404) C dz_92 (by decide) dX9_looksAt_44 ?_
    refine dj_puti C dl_X9_145 dp_9_20 rfl dz_82 dX9_looksAt_45 (fun S2 => ?_)
    refine dj_aload_n C 0 rfl dX9_looksAt_48 ?_
    refine dj_iload_n C 2 rfl dX9_looksAt_49 ?_
    refine dj_puti C dl_X9_148 dp_9_21 rfl dz_82 dX9_looksAt_50 (fun S3 => ?_)
    refine dj_aload_n C 0 rfl dX9_looksAt_53 ?_
    refine dj_getr (r := 14) (k2 := 96) C dl_X9_51 rfl dz_82 rfl dX9_looksAt_54 ?_
    refine dj_iconst C dX9_looksAt_57 dc_iconst_0 ?_
    refine dj_iconst C dX9_looksAt_58 dc_iconst_0 ?_
    refine dj_iastn (n := 2) (j := 0) C dz_96 (by decide) (by decide) (by decide) dX9_looksAt_59 (fun S4 => ?_)
    refine dj_aload_n C 0 rfl dX9_looksAt_60 ?_
    refine dj_getr (r := 14) (k2 := 96) C dl_X9_51 rfl dz_82 rfl dX9_looksAt_61 ?_
    refine dj_iconst C dX9_looksAt_64 dc_iconst_1 ?_
    refine dj_iconst C dX9_looksAt_65 dc_iconst_0 ?_
    refine dj_iastn (n := 2) (j := 1) C dz_96 (by decide) (by decide) (by decide) dX9_looksAt_66 (fun S5 => ?_)
    refine dj_aload_n C 0 rfl dX9_looksAt_67 ?_
    refine dj_bipush C dX9_looksAt_68 dc_bipush_m9 ?_
    refine dj_puti C dl_X9_151 dp_9_23 rfl dz_82 dX9_looksAt_70 (fun S6 => ?_)
    exact dj_vret C dX9_looksAt_73
