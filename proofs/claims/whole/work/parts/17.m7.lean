noncomputable def fX9_starts (x1 : Int32) (x2 : Int32) (S : dk_S) : Option (dk_S) := dk_lt (dk_si S 82 25 x1) (fun S1 => dk_lt (dk_si S1 82 26 x2) (fun S2 => dk_lt (dk_si S2 82 27 0) (fun S3 => dk_lt (dk_si S3 82 28 0) (fun S4 => dk_lt (dk_si S4 82 29 0) (fun S5 => some S5)))))
set_option maxRecDepth 100000 in
set_option maxHeartbeats 4000000 in
theorem ct_X9_starts (l : Launch) (g : dk_G) (x1 : Int32) (x2 : Int32) (S : dk_S)  : dk_M l g yX9_starts cX9_starts 3 none 0 0 [.ref (g.1 82), .int x1, .int x2] S (fX9_starts x1 x2 S) dk_qv := by
  refine dk_enter "DuckWalkModel" (by decide +kernel) rfl (Nat.le_of_ble_eq_true rfl) [(0, .ref (g.1 82)), (1, .int x1), (2, .int x2)] rfl ?_
  intro p e s m args below meth c C
  unfold fX9_starts
  refine dj_aload_n C 0 rfl dX9_starts_0 ?_
  refine dj_iload_n C 1 rfl dX9_starts_1 ?_
  refine dj_puti C dl_X9_154 dp_9_25 rfl dz_82 dX9_starts_2 (fun S1 => ?_)
  refine dj_aload_n C 0 rfl dX9_starts_5 ?_
  refine dj_iload_n C 2 rfl dX9_starts_6 ?_
  refine dj_puti C dl_X9_157 dp_9_26 rfl dz_82 dX9_starts_7 (fun S2 => ?_)
  refine dj_aload_n C 0 rfl dX9_starts_10 ?_
  refine dj_iconst C dX9_starts_11 dc_iconst_0 ?_
  refine dj_puti C dl_X9_160 dp_9_27 rfl dz_82 dX9_starts_12 (fun S3 => ?_)
  refine dj_aload_n C 0 rfl dX9_starts_15 ?_
  refine dj_iconst C dX9_starts_16 dc_iconst_0 ?_
  refine dj_puti C dl_X9_163 dp_9_28 rfl dz_82 dX9_starts_17 (fun S4 => ?_)
  refine dj_aload_n C 0 rfl dX9_starts_20 ?_
  refine dj_iconst C dX9_starts_21 dc_iconst_0 ?_
  refine dj_puti C dl_X9_166 dp_9_29 rfl dz_82 dX9_starts_22 (fun S5 => ?_)
  exact dj_vret C dX9_starts_25
noncomputable def fX9_gain  (S : dk_S) : Option (Int32 × dk_S) := dk_gd (dk_in (4 + (S.1 82 26)) 6) (dk_gd (dk_in (S.1 82 26) 2) (some (((((S.1 82 21) * (S.1 95 3)) / 10) + (S.1 95 (4 + (S.1 82 26)).toNatClampNeg)) + (S.1 96 (S.1 82 26).toNatClampNeg), S)))
set_option maxRecDepth 100000 in
set_option maxHeartbeats 4000000 in
theorem ct_X9_gain (l : Launch) (g : dk_G)  (S : dk_S)  : dk_M l g yX9_gain cX9_gain 1 (some .int) 0 0 [.ref (g.1 82)] S (fX9_gain  S) dk_qi := by
  refine dk_enter "DuckWalkModel" (by decide +kernel) rfl (Nat.le_of_ble_eq_true rfl) [(0, .ref (g.1 82))] rfl ?_
  intro p e s m args below meth c C
  unfold fX9_gain
  refine dj_aload_n C 0 rfl dX9_gain_0 ?_
  refine dj_geti C dl_X9_148 rfl dz_82 dX9_gain_1 ?_
  refine dj_aload_n C 0 rfl dX9_gain_4 ?_
  refine dj_getr (r := 13) (k2 := 95) C dl_X9_48 rfl dz_82 rfl dX9_gain_5 ?_
  refine dj_iconst C dX9_gain_8 dc_iconst_3 ?_
  refine dj_ialdn (n := 6) (j := 3) C dz_95 (by decide) (by decide) (by decide) dX9_gain_9 ?_
  refine dj_imul C dX9_gain_10 ?_
  refine dj_bipush C dX9_gain_11 dc_bipush_10 ?_
  refine dj_idiv C dX9_gain_13 (by decide) ?_
  refine dj_aload_n C 0 rfl dX9_gain_14 ?_
  refine dj_getr (r := 13) (k2 := 95) C dl_X9_48 rfl dz_82 rfl dX9_gain_15 ?_
  refine dj_iconst C dX9_gain_18 dc_iconst_4 ?_
  refine dj_aload_n C 0 rfl dX9_gain_19 ?_
  refine dj_geti C dl_X9_157 rfl dz_82 dX9_gain_20 ?_
  refine dj_iadd C dX9_gain_23 ?_
  refine dj_iald (n := 6) C dz_95 (by decide) dX9_gain_24 ?_
  refine dj_iadd C dX9_gain_25 ?_
  refine dj_aload_n C 0 rfl dX9_gain_26 ?_
  refine dj_getr (r := 14) (k2 := 96) C dl_X9_51 rfl dz_82 rfl dX9_gain_27 ?_
  refine dj_aload_n C 0 rfl dX9_gain_30 ?_
  refine dj_geti C dl_X9_157 rfl dz_82 dX9_gain_31 ?_
  refine dj_iald (n := 2) C dz_96 (by decide) dX9_gain_34 ?_
  refine dj_iadd C dX9_gain_35 ?_
  exact dj_iret C dX9_gain_36
noncomputable def fX9_fallsAt  (S : dk_S) : Option (Int32 × dk_S) := some (20 + (8 * (S.1 95 0)), S)
set_option maxRecDepth 100000 in
set_option maxHeartbeats 4000000 in
theorem ct_X9_fallsAt (l : Launch) (g : dk_G)  (S : dk_S)  : dk_M l g yX9_fallsAt cX9_fallsAt 1 (some .int) 0 0 [.ref (g.1 82)] S (fX9_fallsAt  S) dk_qi := by
  refine dk_enter "DuckWalkModel" (by decide +kernel) rfl (Nat.le_of_ble_eq_true rfl) [(0, .ref (g.1 82))] rfl ?_
  intro p e s m args below meth c C
  unfold fX9_fallsAt
  refine dj_bipush C dX9_fallsAt_0 dc_bipush_20 ?_
  refine dj_bipush C dX9_fallsAt_2 dc_bipush_8 ?_
  refine dj_aload_n C 0 rfl dX9_fallsAt_4 ?_
  refine dj_getr (r := 13) (k2 := 95) C dl_X9_48 rfl dz_82 rfl dX9_fallsAt_5 ?_
  refine dj_iconst C dX9_fallsAt_8 dc_iconst_0 ?_
  refine dj_ialdn (n := 6) (j := 0) C dz_95 (by decide) (by decide) (by decide) dX9_fallsAt_9 ?_
  refine dj_imul C dX9_fallsAt_10 ?_
  refine dj_iadd C dX9_fallsAt_11 ?_
  exact dj_iret C dX9_fallsAt_12
noncomputable def fX9_step (x1 : Int32) (S : dk_S) : Option (dk_S) := dk_gd (decide (¬ ((8 + (2 * (S.1 95 1))) - (S.1 95 2)) = 0)) (dk_lt (((S.1 82 25) * (S.1 82 25)) / ((8 + (2 * (S.1 95 1))) - (S.1 95 2))) (fun y1 : Int32 => (fX9_gain S).bind (fun r2 => dk_lt (((((S.1 82 25) + r2.1) - y1) - (r2.2.1 82 20)) - x1) (fun y3 : Int32 => dk_lt (dk_si r2.2 82 28 ((r2.2.1 82 28) + y1)) (fun S4 => dk_lt (fun t5 : dk_S => (dk_lt (dk_si t5 82 29 ((t5.1 82 29) + ((t5.1 95 3) + ((t5.1 82 25) / 10)))) (fun S7 => some S7) : Option (dk_S))) (fun k6 => if 3 ≤ y3 then dk_lt (dk_si S4 82 25 y3) (fun S9 => (fX9_fallsAt S9).bind (fun r10 => if y3 ≤ r10.1 then dk_lt (dk_si r10.2 82 26 (1 - (r10.2.1 82 26))) (fun S12 => k6 S12) else dk_lt (dk_si r10.2 82 27 2) (fun S13 => k6 S13))) else dk_lt (dk_si S4 82 27 1) (fun S14 => dk_lt (dk_si S14 82 25 0) (fun S15 => k6 S15))))))))
set_option maxRecDepth 100000 in
set_option maxHeartbeats 4000000 in
theorem ct_X9_step (l : Launch) (g : dk_G) (x1 : Int32) (S : dk_S)  : dk_M l g yX9_step cX9_step 4 none 1 20 [.ref (g.1 82), .int x1] S (fX9_step x1 S) dk_qv := by
  refine dk_enter "DuckWalkModel" (by decide +kernel) rfl (Nat.le_of_ble_eq_true rfl) [(0, .ref (g.1 82)), (1, .int x1)] rfl ?_
  intro p e s m args below meth c C
  unfold fX9_step
  refine dj_aload_n C 0 rfl dX9_step_0 ?_
  refine dj_geti C dl_X9_154 rfl dz_82 dX9_step_1 ?_
  refine dj_aload_n C 0 rfl dX9_step_4 ?_
  refine dj_geti C dl_X9_154 rfl dz_82 dX9_step_5 ?_
  refine dj_imul C dX9_step_8 ?_
  refine dj_bipush C dX9_step_9 dc_bipush_8 ?_
  refine dj_iconst C dX9_step_11 dc_iconst_2 ?_
  refine dj_aload_n C 0 rfl dX9_step_12 ?_
  refine dj_getr (r := 13) (k2 := 95) C dl_X9_48 rfl dz_82 rfl dX9_step_13 ?_
  refine dj_iconst C dX9_step_16 dc_iconst_1 ?_
  refine dj_ialdn (n := 6) (j := 1) C dz_95 (by decide) (by decide) (by decide) dX9_step_17 ?_
  refine dj_imul C dX9_step_18 ?_
  refine dj_iadd C dX9_step_19 ?_
  refine dj_aload_n C 0 rfl dX9_step_20 ?_
  refine dj_getr (r := 13) (k2 := 95) C dl_X9_48 rfl dz_82 rfl dX9_step_21 ?_
  refine dj_iconst C dX9_step_24 dc_iconst_2 ?_
  refine dj_ialdn (n := 6) (j := 2) C dz_95 (by decide) (by decide) (by decide) dX9_step_25 ?_
  refine dj_isub C dX9_step_26 ?_
  refine dj_idivg C dX9_step_27 ?_
  refine dj_lti (fun y1 => ?_)
  refine dj_istore_n (lv2 := [(0, .ref (g.1 82)), (1, .int x1), (2, .int y1)]) C [1, 2, 0] dX9_step_28 rfl (by decide) rfl ?_
  refine dj_aload_n C 0 rfl dX9_step_29 ?_
  refine dj_geti C dl_X9_154 rfl dz_82 dX9_step_30 ?_
  refine dj_aload_n C 0 rfl dX9_step_33 ?_
  refine dj_callVi (t := 9) (As := []) C dw_X9_169 ⟨_, _, rfl⟩ (by decide) dz_82 (ct_X9_gain l g S) ⟨Nat.le_of_ble_eq_true rfl, Nat.le_of_ble_eq_true rfl⟩ rfl (Nat.le_of_ble_eq_true rfl) rfl dX9_step_34 (fun r2 => ?_)
  refine dj_iadd C dX9_step_37 ?_
  refine dj_iload_n C 2 rfl dX9_step_38 ?_
  refine dj_isub C dX9_step_39 ?_
  refine dj_aload_n C 0 rfl dX9_step_40 ?_
  refine dj_geti C dl_X9_145 rfl dz_82 dX9_step_41 ?_
  refine dj_isub C dX9_step_44 ?_
  refine dj_iload_n C 1 rfl dX9_step_45 ?_
  refine dj_isub C dX9_step_46 ?_
  refine dj_lti (fun y3 => ?_)
  refine dj_istore_n (lv2 := [(0, .ref (g.1 82)), (2, .int y1), (3, .int y3)]) C [1, 3, 0] dX9_step_47 rfl (by decide) rfl ?_
  refine dj_aload_n C 0 rfl dX9_step_48 ?_
  refine dj_dup C dX9_step_49 rfl ?_
  refine dj_geti C dl_X9_163 rfl dz_82 dX9_step_50 ?_
  refine dj_iload_n C 1 rfl dX9_step_53 ?_
  refine dj_iadd C dX9_step_54 ?_
  refine dj_puti C dl_X9_163 dp_9_28 rfl dz_82 dX9_step_55 (fun S4 => ?_)
  refine dj_iload_n C 2 rfl dX9_step_58 ?_
  refine dj_iconst C dX9_step_59 dc_iconst_3 ?_
  refine dj_join 107 (fun t5 : dk_S => [(0, .ref (g.1 82))]) (fun t5 : dk_S => []) (fun t5 : dk_S => t5) (fun t5 => ?_) (fun k6 hk6 => ?_)
  · refine dj_aload_n C 0 rfl dX9_step_107 ?_
    refine dj_dup C dX9_step_108 rfl ?_
    refine dj_geti C dl_X9_166 rfl dz_82 dX9_step_109 ?_
    refine dj_aload_n C 0 rfl dX9_step_112 ?_
    refine dj_getr (r := 13) (k2 := 95) C dl_X9_48 rfl dz_82 rfl dX9_step_113 ?_
    refine dj_iconst C dX9_step_116 dc_iconst_3 ?_
    refine dj_ialdn (n := 6) (j := 3) C dz_95 (by decide) (by decide) (by decide) dX9_step_117 ?_
    refine dj_aload_n C 0 rfl dX9_step_118 ?_
    refine dj_geti C dl_X9_154 rfl dz_82 dX9_step_119 ?_
    refine dj_bipush C dX9_step_122 dc_bipush_10 ?_
    refine dj_idiv C dX9_step_124 (by decide) ?_
    refine dj_iadd C dX9_step_125 ?_
    refine dj_iadd C dX9_step_126 ?_
    refine dj_puti C dl_X9_166 dp_9_29 rfl dz_82 dX9_step_127 (fun S7 => ?_)
    exact dj_vret C dX9_step_130
  · refine dj_icmp_ge (tgt := 76) C dX9_step_60 (by decide) (fun c8 => ?_) (fun c8 => ?_)
    · refine dj_aload_n C 0 rfl dX9_step_76 ?_
      refine dj_iload_n C 2 rfl dX9_step_77 ?_
      refine dj_puti C dl_X9_154 dp_9_25 rfl dz_82 dX9_step_78 (fun S9 => ?_)
      refine dj_iload_n C 2 rfl dX9_step_81 ?_
      refine dj_aload_n C 0 rfl dX9_step_82 ?_
      refine dj_callVi (t := 9) (As := []) C dw_X9_173 ⟨_, _, rfl⟩ (by decide) dz_82 (ct_X9_fallsAt l g S9) ⟨Nat.le_of_ble_eq_true rfl, Nat.le_of_ble_eq_true rfl⟩ rfl (Nat.le_of_ble_eq_true rfl) rfl dX9_step_83 (fun r10 => ?_)
      refine dj_icmp_le (tgt := 97) C dX9_step_86 (by decide) (fun c11 => ?_) (fun c11 => ?_)
      · refine dj_aload_n C 0 rfl dX9_step_97 ?_
        refine dj_iconst C dX9_step_98 dc_iconst_1 ?_
        refine dj_aload_n C 0 rfl dX9_step_99 ?_
        refine dj_geti C dl_X9_157 rfl dz_82 dX9_step_100 ?_
        refine dj_isub C dX9_step_103 ?_
        refine dj_puti C dl_X9_157 dp_9_26 rfl dz_82 dX9_step_104 (fun S12 => ?_)
        refine dj_sub (lv2 := [(0, .ref (g.1 82))]) [0] rfl ?_
        exact hk6 S12
      · refine dj_aload_n C 0 rfl dX9_step_89 ?_
        refine dj_iconst C dX9_step_90 dc_iconst_2 ?_
        refine dj_puti C dl_X9_160 dp_9_27 rfl dz_82 dX9_step_91 (fun S13 => ?_)
        refine dj_goto (tgt := 107) C dX9_step_94 (by decide) ?_
        refine dj_sub (lv2 := [(0, .ref (g.1 82))]) [0] rfl ?_
        exact hk6 S13
    · refine dj_aload_n C 0 rfl dX9_step_63 ?_
      refine dj_iconst C dX9_step_64 dc_iconst_1 ?_
      refine dj_puti C dl_X9_160 dp_9_27 rfl dz_82 dX9_step_65 (fun S14 => ?_)
      refine dj_aload_n C 0 rfl dX9_step_68 ?_
      refine dj_iconst C dX9_step_69 dc_iconst_0 ?_
      refine dj_puti C dl_X9_154 dp_9_25 rfl dz_82 dX9_step_70 (fun S15 => ?_)
      refine dj_goto (tgt := 107) C dX9_step_73 (by decide) ?_
      refine dj_sub (lv2 := [(0, .ref (g.1 82))]) [0] rfl ?_
      exact hk6 S15
noncomputable def fX9_steps (x1 : Int32) (S : dk_S) : Option (dk_S) := if x1 = (S.1 82 23) then (fX9_step (S.1 82 24) S).bind (fun r3 => some r3) else (fX9_step 0 S).bind (fun r2 => some r2)
set_option maxRecDepth 100000 in
set_option maxHeartbeats 4000000 in
theorem ct_X9_steps (l : Launch) (g : dk_G) (x1 : Int32) (S : dk_S)  : dk_M l g yX9_steps cX9_steps 2 none 2 43 [.ref (g.1 82), .int x1] S (fX9_steps x1 S) dk_qv := by
  refine dk_enter "DuckWalkModel" (by decide +kernel) rfl (Nat.le_of_ble_eq_true rfl) [(0, .ref (g.1 82)), (1, .int x1)] rfl ?_
  intro p e s m args below meth c C
  unfold fX9_steps
  refine dj_aload_n C 0 rfl dX9_steps_0 ?_
  refine dj_iload_n C 1 rfl dX9_steps_1 ?_
  refine dj_aload_n C 0 rfl dX9_steps_2 ?_
  refine dj_geti C dl_X9_151 rfl dz_82 dX9_steps_3 ?_
  refine dj_icmp_ne (tgt := 16) C dX9_steps_6 (by decide) (fun c1 => ?_) (fun c1 => ?_)
  · refine dj_iconst C dX9_steps_16 dc_iconst_0 ?_
    refine dj_callVv (t := 9) (As := [.int 0]) C dw_X9_179 ⟨_, _, rfl⟩ (by decide) dz_82 (ct_X9_step l g 0 S) ⟨Nat.le_of_ble_eq_true rfl, Nat.le_of_ble_eq_true rfl⟩ rfl (Nat.le_of_ble_eq_true rfl) rfl dX9_steps_17 (fun r2 => ?_)
    exact dj_vret C dX9_steps_20
  · refine dj_aload_n C 0 rfl dX9_steps_9 ?_
    refine dj_geti C dl_X9_176 rfl dz_82 dX9_steps_10 ?_
    refine dj_goto (tgt := 17) C dX9_steps_13 (by decide) ?_
    refine dj_callVv (t := 9) (As := [.int (S.1 82 24)]) C dw_X9_179 ⟨_, _, rfl⟩ (by decide) dz_82 (ct_X9_step l g (S.1 82 24) S) ⟨Nat.le_of_ble_eq_true rfl, Nat.le_of_ble_eq_true rfl⟩ rfl (Nat.le_of_ble_eq_true rfl) rfl dX9_steps_17 (fun r3 => ?_)
    exact dj_vret C dX9_steps_20
noncomputable def fX9_copyWalk_L2 (x1 : Int32) (x2 : Int32) : Nat → Int32 → dk_S → Option (dk_S)
  | 0, _, _ => none
  | n + 1, x3, S => if 114 ≤ x3 then some S else dk_gd (dk_in ((114 * x1) + x3) 456) (dk_gd (dk_in ((114 * x2) + x3) 456) (dk_lt (dk_si S 98 ((114 * x2) + x3).toNatClampNeg (S.1 98 ((114 * x1) + x3).toNatClampNeg)) (fun S2 => fX9_copyWalk_L2 x1 x2 n (x3 + 1) S2)))
noncomputable def fX9_copyWalk (x1 : Int32) (x2 : Int32) (S : dk_S) : Option (dk_S) := fX9_copyWalk_L2 x1 x2 dk_FU 0 S
set_option maxRecDepth 100000 in
set_option maxHeartbeats 4000000 in
theorem jX9_copyWalk_L2 {p : Program} {l : Launch} {e : Env} {R : Room} {s : State} {m : MethodId} {args : Array Value} {below : List Frame} {meth : Method} {c : Code} {g : dk_G} (C : dk_C p l e R s m args below meth c g cX9_copyWalk "DuckWalkModel" 4 none) (hR : R = { frames := 0, cells := 0, slots := 0, locals := 0 }) (x1 : Int32) (x2 : Int32)   : ∀ (n : Nat) (x3 : Int32) (S : dk_S), dk_J p l e R s m args below meth c g 4 dk_qv 2 [(0, .ref (g.1 82)), (1, .int x1), (2, .int x2), (3, .int x3)] [] S (fX9_copyWalk_L2 x1 x2 n x3 S) some := by
  subst hR
  intro n
  induction n with
  | zero =>
    intro x3 S
    exact dj_none
  | succ n ih =>
    intro x3 S
    rw [fX9_copyWalk_L2]
    refine dj_iload_n C 3 rfl dX9_copyWalk_2 ?_
    refine dj_bipush C dX9_copyWalk_3 dc_bipush_114 ?_
    refine dj_icmp_ge (tgt := 36) C dX9_copyWalk_5 (by decide) (fun c1 => ?_) (fun c1 => ?_)
    · exact dj_vret C dX9_copyWalk_36
    · refine dj_aload_n C 0 rfl dX9_copyWalk_8 ?_
      refine dj_getr (r := 16) (k2 := 98) C dl_X9_57 rfl dz_82 rfl dX9_copyWalk_9 ?_
      refine dj_bipush C dX9_copyWalk_12 dc_bipush_114 ?_
      refine dj_iload_n C 2 rfl dX9_copyWalk_14 ?_
      refine dj_imul C dX9_copyWalk_15 ?_
      refine dj_iload_n C 3 rfl dX9_copyWalk_16 ?_
      refine dj_iadd C dX9_copyWalk_17 ?_
      refine dj_aload_n C 0 rfl dX9_copyWalk_18 ?_
      refine dj_getr (r := 16) (k2 := 98) C dl_X9_57 rfl dz_82 rfl dX9_copyWalk_19 ?_
      refine dj_bipush C dX9_copyWalk_22 dc_bipush_114 ?_
      refine dj_iload_n C 1 rfl dX9_copyWalk_24 ?_
      refine dj_imul C dX9_copyWalk_25 ?_
      refine dj_iload_n C 3 rfl dX9_copyWalk_26 ?_
      refine dj_iadd C dX9_copyWalk_27 ?_
      refine dj_iald (n := 456) C dz_98 (by decide) dX9_copyWalk_28 ?_
      refine dj_iast (n := 456) C dz_98 (by decide) dX9_copyWalk_29 (fun S2 => ?_)
      refine dj_iinc (lv2 := [(0, .ref (g.1 82)), (1, .int x1), (2, .int x2), (3, .int (x3 + 1))]) C 3 rfl [1, 2, 3, 0] dX9_copyWalk_30 dc_iconst_1 (by decide) rfl ?_
      refine dj_goto (tgt := 2) C dX9_copyWalk_33 (by decide) ?_
      exact ih (x3 + 1) S2
set_option maxRecDepth 100000 in
set_option maxHeartbeats 4000000 in
theorem ct_X9_copyWalk (l : Launch) (g : dk_G) (x1 : Int32) (x2 : Int32) (S : dk_S)  : dk_M l g yX9_copyWalk cX9_copyWalk 4 none 0 0 [.ref (g.1 82), .int x1, .int x2] S (fX9_copyWalk x1 x2 S) dk_qv := by
  refine dk_enter "DuckWalkModel" (by decide +kernel) rfl (Nat.le_of_ble_eq_true rfl) [(0, .ref (g.1 82)), (1, .int x1), (2, .int x2)] rfl ?_
  intro p e s m args below meth c C
  unfold fX9_copyWalk
  refine dj_iconst C dX9_copyWalk_0 dc_iconst_0 ?_
  refine dj_istore_n (lv2 := [(0, .ref (g.1 82)), (1, .int x1), (2, .int x2), (3, .int 0)]) C [1, 2, 3, 0] dX9_copyWalk_1 rfl (by decide) rfl ?_
  refine jX9_copyWalk_L2 C rfl x1 x2 dk_FU 0 S
noncomputable def fX9_layWalk_L2 (kx26 : dk_S → Option (dk_S)) : Nat → Int32 → dk_S → Option (dk_S)
  | 0, _, _ => none
  | n + 1, x1, S => if 6 ≤ x1 then kx26 S else dk_gd (dk_in x1 456) (dk_gd (dk_in x1 6) (dk_lt (dk_si S 95 x1.toNatClampNeg (S.1 98 x1.toNatClampNeg)) (fun S13 => fX9_layWalk_L2 kx26 n (x1 + 1) S13)))
noncomputable def fX9_layWalk  (S : dk_S) : Option (dk_S) := fX9_layWalk_L2 (fun t1 : dk_S => dk_lt (dk_si t1 82 20 (t1.1 98 13)) (fun S2 => dk_lt (dk_si S2 82 21 (S2.1 98 6)) (fun S3 => dk_lt (dk_si S3 96 0 0) (fun S4 => dk_lt (dk_si S4 96 1 0) (fun S5 => dk_lt (dk_si S5 82 23 (-9)) (fun S6 => dk_lt (dk_si S6 82 25 (S6.1 98 7)) (fun S7 => dk_lt (dk_si S7 82 26 (S7.1 98 8)) (fun S8 => dk_lt (dk_si S8 82 27 (S8.1 98 10)) (fun S9 => dk_lt (dk_si S9 82 28 (S9.1 98 11)) (fun S10 => dk_lt (dk_si S10 82 29 (S10.1 98 12)) (fun S11 => some S11))))))))))) dk_FU 0 S
set_option maxRecDepth 100000 in
set_option maxHeartbeats 4000000 in
theorem jX9_layWalk_L2 {p : Program} {l : Launch} {e : Env} {R : Room} {s : State} {m : MethodId} {args : Array Value} {below : List Frame} {meth : Method} {c : Code} {g : dk_G} (C : dk_C p l e R s m args below meth c g cX9_layWalk "DuckWalkModel" 2 none) (hR : R = { frames := 0, cells := 0, slots := 0, locals := 0 }) (kx26 : dk_S → Option (dk_S))  (hkx26 : ∀ t : dk_S, dk_J p l e R s m args below meth c g 2 dk_qv 26 [(0, .ref (g.1 82))] [] t (kx26 t) some) : ∀ (n : Nat) (x1 : Int32) (S : dk_S), dk_J p l e R s m args below meth c g 2 dk_qv 2 [(0, .ref (g.1 82)), (1, .int x1)] [] S (fX9_layWalk_L2 kx26 n x1 S) some := by
  subst hR
  intro n
  induction n with
  | zero =>
    intro x1 S
    exact dj_none
  | succ n ih =>
    intro x1 S
    rw [fX9_layWalk_L2]
    refine dj_iload_n C 1 rfl dX9_layWalk_2 ?_
    refine dj_bipush C dX9_layWalk_3 dc_bipush_6 ?_
    refine dj_icmp_ge (tgt := 26) C dX9_layWalk_5 (by decide) (fun c12 => ?_) (fun c12 => ?_)
    · refine dj_sub (lv2 := [(0, .ref (g.1 82))]) [0] rfl ?_
      exact hkx26 S
    · refine dj_aload_n C 0 rfl dX9_layWalk_8 ?_
      refine dj_getr (r := 13) (k2 := 95) C dl_X9_48 rfl dz_82 rfl dX9_layWalk_9 ?_
      refine dj_iload_n C 1 rfl dX9_layWalk_12 ?_
      refine dj_aload_n C 0 rfl dX9_layWalk_13 ?_
      refine dj_getr (r := 16) (k2 := 98) C dl_X9_57 rfl dz_82 rfl dX9_layWalk_14 ?_
      refine dj_iload_n C 1 rfl dX9_layWalk_17 ?_
      refine dj_iald (n := 456) C dz_98 (by decide) dX9_layWalk_18 ?_
      refine dj_iast (n := 6) C dz_95 (by decide) dX9_layWalk_19 (fun S13 => ?_)
      refine dj_iinc (lv2 := [(0, .ref (g.1 82)), (1, .int (x1 + 1))]) C 1 rfl [1, 0] dX9_layWalk_20 dc_iconst_1 (by decide) rfl ?_
      refine dj_goto (tgt := 2) C dX9_layWalk_23 (by decide) ?_
      exact ih (x1 + 1) S13
set_option maxRecDepth 100000 in
set_option maxHeartbeats 4000000 in
theorem ct_X9_layWalk (l : Launch) (g : dk_G)  (S : dk_S)  : dk_M l g yX9_layWalk cX9_layWalk 2 none 0 0 [.ref (g.1 82)] S (fX9_layWalk  S) dk_qv := by
  refine dk_enter "DuckWalkModel" (by decide +kernel) rfl (Nat.le_of_ble_eq_true rfl) [(0, .ref (g.1 82))] rfl ?_
  intro p e s m args below meth c C
  unfold fX9_layWalk
  refine dj_iconst C dX9_layWalk_0 dc_iconst_0 ?_
  refine dj_istore_n (lv2 := [(0, .ref (g.1 82)), (1, .int 0)]) C [1, 0] dX9_layWalk_1 rfl (by decide) rfl ?_
  refine jX9_layWalk_L2 C rfl _ (fun t1 => ?_) dk_FU 0 S
  · refine dj_aload_n C 0 rfl dX9_layWalk_26 ?_
    refine dj_aload_n C 0 rfl dX9_layWalk_27 ?_
    refine dj_getr (r := 16) (k2 := 98) C dl_X9_57 rfl dz_82 rfl dX9_layWalk_28 ?_
    refine dj_bipush C dX9_layWalk_31 dc_bipush_13 ?_
    refine dj_ialdn (n := 456) (j := 13) C dz_98 (by decide) (by decide) (by decide) dX9_layWalk_33 ?_
    refine dj_puti C dl_X9_145 dp_9_20 rfl dz_82 dX9_layWalk_34 (fun S2 => ?_)
    refine dj_aload_n C 0 rfl dX9_layWalk_37 ?_
    refine dj_aload_n C 0 rfl dX9_layWalk_38 ?_
    refine dj_getr (r := 16) (k2 := 98) C dl_X9_57 rfl dz_82 rfl dX9_layWalk_39 ?_
    refine dj_bipush C dX9_layWalk_42 dc_bipush_6 ?_
    refine dj_ialdn (n := 456) (j := 6) C dz_98 (by decide) (by decide) (by decide) dX9_layWalk_44 ?_
    refine dj_puti C dl_X9_148 dp_9_21 rfl dz_82 dX9_layWalk_45 (fun S3 => ?_)
    refine dj_aload_n C 0 rfl dX9_layWalk_48 ?_
    refine dj_getr (r := 14) (k2 := 96) C dl_X9_51 rfl dz_82 rfl dX9_layWalk_49 ?_
    refine dj_iconst C dX9_layWalk_52 dc_iconst_0 ?_
    refine dj_iconst C dX9_layWalk_53 dc_iconst_0 ?_
    refine dj_iastn (n := 2) (j := 0) C dz_96 (by decide) (by decide) (by decide) dX9_layWalk_54 (fun S4 => ?_)
    refine dj_aload_n C 0 rfl dX9_layWalk_55 ?_
    refine dj_getr (r := 14) (k2 := 96) C dl_X9_51 rfl dz_82 rfl dX9_layWalk_56 ?_
    refine dj_iconst C dX9_layWalk_59 dc_iconst_1 ?_
    refine dj_iconst C dX9_layWalk_60 dc_iconst_0 ?_
    refine dj_iastn (n := 2) (j := 1) C dz_96 (by decide) (by decide) (by decide) dX9_layWalk_61 (fun S5 => ?_)
    refine dj_aload_n C 0 rfl dX9_layWalk_62 ?_
    refine dj_bipush C dX9_layWalk_63 dc_bipush_m9 ?_
    refine dj_puti C dl_X9_151 dp_9_23 rfl dz_82 dX9_layWalk_65 (fun S6 => ?_)
    refine dj_aload_n C 0 rfl dX9_layWalk_68 ?_
    refine dj_aload_n C 0 rfl dX9_layWalk_69 ?_
    refine dj_getr (r := 16) (k2 := 98) C dl_X9_57 rfl dz_82 rfl dX9_layWalk_70 ?_
    refine dj_bipush C dX9_layWalk_73 dc_bipush_7 ?_
    refine dj_ialdn (n := 456) (j := 7) C dz_98 (by decide) (by decide) (by decide) dX9_layWalk_75 ?_
    refine dj_puti C dl_X9_154 dp_9_25 rfl dz_82 dX9_layWalk_76 (fun S7 => ?_)
    refine dj_aload_n C 0 rfl dX9_layWalk_79 ?_
    refine dj_aload_n C 0 rfl dX9_layWalk_80 ?_
    refine dj_getr (r := 16) (k2 := 98) C dl_X9_57 rfl dz_82 rfl dX9_layWalk_81 ?_
    refine dj_bipush C dX9_layWalk_84 dc_bipush_8 ?_
    refine dj_ialdn (n := 456) (j := 8) C dz_98 (by decide) (by decide) (by decide) dX9_layWalk_86 ?_
    refine dj_puti C dl_X9_157 dp_9_26 rfl dz_82 dX9_layWalk_87 (fun S8 => ?_)
    refine dj_aload_n C 0 rfl dX9_layWalk_90 ?_
    refine dj_aload_n C 0 rfl dX9_layWalk_91 ?_
    refine dj_getr (r := 16) (k2 := 98) C dl_X9_57 rfl dz_82 rfl dX9_layWalk_92 ?_
    refine dj_bipush C dX9_layWalk_95 dc_bipush_10 ?_
    refine dj_ialdn (n := 456) (j := 10) C dz_98 (by decide) (by decide) (by decide) dX9_layWalk_97 ?_
    refine dj_puti C dl_X9_160 dp_9_27 rfl dz_82 dX9_layWalk_98 (fun S9 => ?_)
    refine dj_aload_n C 0 rfl dX9_layWalk_101 ?_
    refine dj_aload_n C 0 rfl dX9_layWalk_102 ?_
    refine dj_getr (r := 16) (k2 := 98) C dl_X9_57 rfl dz_82 rfl dX9_layWalk_103 ?_
    refine dj_bipush C dX9_layWalk_106 dc_bipush_11 ?_
    refine dj_ialdn (n := 456) (j := 11) C dz_98 (by decide) (by decide) (by decide) dX9_layWalk_108 ?_
    refine dj_puti C dl_X9_163 dp_9_28 rfl dz_82 dX9_layWalk_109 (fun S10 => ?_)
    refine dj_aload_n C 0 rfl dX9_layWalk_112 ?_
    refine dj_aload_n C 0 rfl dX9_layWalk_113 ?_
    refine dj_getr (r := 16) (k2 := 98) C dl_X9_57 rfl dz_82 rfl dX9_layWalk_114 ?_
    refine dj_bipush C dX9_layWalk_117 dc_bipush_12 ?_
    refine dj_ialdn (n := 456) (j := 12) C dz_98 (by decide) (by decide) (by decide) dX9_layWalk_119 ?_
    refine dj_puti C dl_X9_166 dp_9_29 rfl dz_82 dX9_layWalk_120 (fun S11 => ?_)
    exact dj_vret C dX9_layWalk_123
noncomputable def fX9_storeWalk  (S : dk_S) : Option (dk_S) := dk_lt (dk_si S 98 7 (S.1 82 25)) (fun S1 => dk_lt (dk_si S1 98 8 (S1.1 82 26)) (fun S2 => dk_lt (dk_si S2 98 10 (S2.1 82 27)) (fun S3 => dk_lt (dk_si S3 98 11 (S3.1 82 28)) (fun S4 => dk_lt (dk_si S4 98 12 (S4.1 82 29)) (fun S5 => some S5)))))
set_option maxRecDepth 100000 in
set_option maxHeartbeats 4000000 in
theorem ct_X9_storeWalk (l : Launch) (g : dk_G)  (S : dk_S)  : dk_M l g yX9_storeWalk cX9_storeWalk 1 none 0 0 [.ref (g.1 82)] S (fX9_storeWalk  S) dk_qv := by
  refine dk_enter "DuckWalkModel" (by decide +kernel) rfl (Nat.le_of_ble_eq_true rfl) [(0, .ref (g.1 82))] rfl ?_
  intro p e s m args below meth c C
  unfold fX9_storeWalk
  refine dj_aload_n C 0 rfl dX9_storeWalk_0 ?_
  refine dj_getr (r := 16) (k2 := 98) C dl_X9_57 rfl dz_82 rfl dX9_storeWalk_1 ?_
  refine dj_bipush C dX9_storeWalk_4 dc_bipush_7 ?_
  refine dj_aload_n C 0 rfl dX9_storeWalk_6 ?_
  refine dj_geti C dl_X9_154 rfl dz_82 dX9_storeWalk_7 ?_
  refine dj_iastn (n := 456) (j := 7) C dz_98 (by decide) (by decide) (by decide) dX9_storeWalk_10 (fun S1 => ?_)
  refine dj_aload_n C 0 rfl dX9_storeWalk_11 ?_
  refine dj_getr (r := 16) (k2 := 98) C dl_X9_57 rfl dz_82 rfl dX9_storeWalk_12 ?_
  refine dj_bipush C dX9_storeWalk_15 dc_bipush_8 ?_
  refine dj_aload_n C 0 rfl dX9_storeWalk_17 ?_
  refine dj_geti C dl_X9_157 rfl dz_82 dX9_storeWalk_18 ?_
  refine dj_iastn (n := 456) (j := 8) C dz_98 (by decide) (by decide) (by decide) dX9_storeWalk_21 (fun S2 => ?_)
  refine dj_aload_n C 0 rfl dX9_storeWalk_22 ?_
  refine dj_getr (r := 16) (k2 := 98) C dl_X9_57 rfl dz_82 rfl dX9_storeWalk_23 ?_
  refine dj_bipush C dX9_storeWalk_26 dc_bipush_10 ?_
  refine dj_aload_n C 0 rfl dX9_storeWalk_28 ?_
  refine dj_geti C dl_X9_160 rfl dz_82 dX9_storeWalk_29 ?_
  refine dj_iastn (n := 456) (j := 10) C dz_98 (by decide) (by decide) (by decide) dX9_storeWalk_32 (fun S3 => ?_)
  refine dj_aload_n C 0 rfl dX9_storeWalk_33 ?_
  refine dj_getr (r := 16) (k2 := 98) C dl_X9_57 rfl dz_82 rfl dX9_storeWalk_34 ?_
  refine dj_bipush C dX9_storeWalk_37 dc_bipush_11 ?_
  refine dj_aload_n C 0 rfl dX9_storeWalk_39 ?_
  refine dj_geti C dl_X9_163 rfl dz_82 dX9_storeWalk_40 ?_
  refine dj_iastn (n := 456) (j := 11) C dz_98 (by decide) (by decide) (by decide) dX9_storeWalk_43 (fun S4 => ?_)
  refine dj_aload_n C 0 rfl dX9_storeWalk_44 ?_
  refine dj_getr (r := 16) (k2 := 98) C dl_X9_57 rfl dz_82 rfl dX9_storeWalk_45 ?_
  refine dj_bipush C dX9_storeWalk_48 dc_bipush_12 ?_
  refine dj_aload_n C 0 rfl dX9_storeWalk_50 ?_
  refine dj_geti C dl_X9_166 rfl dz_82 dX9_storeWalk_51 ?_
  refine dj_iastn (n := 456) (j := 12) C dz_98 (by decide) (by decide) (by decide) dX9_storeWalk_54 (fun S5 => ?_)
  exact dj_vret C dX9_storeWalk_55
noncomputable def fX9_walk_L109 (x2 : Int32) (x3 : Int32) (x4 : Int32) (x5 : Int32) (kx144 : dk_S → Option (Int32 × dk_S)) : Nat → Int32 → dk_S → Option (Int32 × dk_S)
  | 0, _, _ => none
  | n + 1, x6, S => if 101 ≤ x6 then kx144 S else dk_gd (dk_in ((101 * x2) + x6) 404) (dk_gd (dk_in (13 + x6) 456) (dk_lt (dk_si S 98 (13 + x6).toNatClampNeg (S.1 92 ((101 * x2) + x6).toNatClampNeg)) (fun S24 => fX9_walk_L109 x2 x3 x4 x5 kx144 n (x6 + 1) S24)))
noncomputable def fX9_walk_L74 (x1 : Int32) (x2 : Int32) (x3 : Int32) (x4 : Int32) (x5 : Int32) (kx106 : dk_S → Option (Int32 × dk_S)) : Nat → Int32 → dk_S → Option (Int32 × dk_S)
  | 0, _, _ => none
  | n + 1, x6, S => if 6 ≤ x6 then kx106 S else dk_gd (dk_in ((7 * x1) + x6) 28) (dk_gd (dk_in x6 456) (dk_lt (dk_si S 98 x6.toNatClampNeg (S.1 90 ((7 * x1) + x6).toNatClampNeg)) (fun S26 => fX9_walk_L74 x1 x2 x3 x4 x5 kx106 n (x6 + 1) S26)))
noncomputable def fX9_walk (x1 : Int32) (x2 : Int32) (x3 : Int32) (x4 : Int32) (x5 : Int32) (S : dk_S) : Option (Int32 × dk_S) := (fX9_isPlace x1 S).bind (fun r1 => if r1.1 = 0 then some ((-1), r1.2) else (fX9_isPlace x2 r1.2).bind (fun r3 => if r3.1 = 0 then some ((-1), r3.2) else (fX9_in x3 0 99 r3.2).bind (fun r5 => if r5.1 = 0 then some ((-1), r5.2) else (fX9_in x4 0 99 r5.2).bind (fun r7 => if r7.1 = 0 then some ((-1), r7.2) else (fX9_in x5 0 1 r7.2).bind (fun r9 => if r9.1 = 0 then some ((-1), r9.2) else dk_gd (dk_in x1 4) (if (r9.2.1 89 x1.toNatClampNeg) = 0 then (fX9_notes 1 r9.2).bind (fun r12 => some (r12.1, r12.2)) else dk_gd (dk_in x2 4) (if (r9.2.1 91 x2.toNatClampNeg) = 0 then (fX9_notes 1 r9.2).bind (fun r27 => some (r27.1, r27.2)) else fX9_walk_L74 x1 x2 x3 x4 x5 (fun t14 : dk_S => fX9_walk_L109 x2 x3 x4 x5 (fun t15 : dk_S => dk_lt (dk_si t15 98 6 x3) (fun S16 => dk_lt (dk_si S16 98 9 0) (fun S17 => (fX9_starts x4 x5 S17).bind (fun r18 => (fX9_storeWalk r18).bind (fun r19 => dk_lt (dk_si r19 97 0 (vp_nar .boolean 1)) (fun S20 => (fX9_layWalk S20).bind (fun r21 => (fX9_gain r21).bind (fun r22 => some (r22.1, r22.2))))))))) dk_FU 0 t14) dk_FU 0 r9.2)))))))
set_option maxRecDepth 100000 in
set_option maxHeartbeats 4000000 in
theorem jX9_walk_L109 {p : Program} {l : Launch} {e : Env} {R : Room} {s : State} {m : MethodId} {args : Array Value} {below : List Frame} {meth : Method} {c : Code} {g : dk_G} (C : dk_C p l e R s m args below meth c g cX9_walk "DuckWalkModel" 7 (some .int)) (hR : R = { frames := 2, cells := 0, slots := 0, locals := 42 }) (x2 : Int32) (x3 : Int32) (x4 : Int32) (x5 : Int32) (kx144 : dk_S → Option (Int32 × dk_S))  (hkx144 : ∀ t : dk_S, dk_J p l e R s m args below meth c g 7 dk_qi 144 [(0, .ref (g.1 82)), (3, .int x3), (4, .int x4), (5, .int x5)] [] t (kx144 t) some) : ∀ (n : Nat) (x6 : Int32) (S : dk_S), dk_J p l e R s m args below meth c g 7 dk_qi 109 [(0, .ref (g.1 82)), (2, .int x2), (3, .int x3), (4, .int x4), (5, .int x5), (6, .int x6)] [] S (fX9_walk_L109 x2 x3 x4 x5 kx144 n x6 S) some := by
  subst hR
  intro n
  induction n with
  | zero =>
    intro x6 S
    exact dj_none
  | succ n ih =>
    intro x6 S
    rw [fX9_walk_L109]
    refine dj_iload C 5 rfl dX9_walk_109 ?_
    refine dj_bipush C dX9_walk_111 dc_bipush_101 ?_
    refine dj_icmp_ge (tgt := 144) C dX9_walk_113 (by decide) (fun c23 => ?_) (fun c23 => ?_)
    · refine dj_sub (lv2 := [(0, .ref (g.1 82)), (3, .int x3), (4, .int x4), (5, .int x5)]) [0, 2, 3, 4] rfl ?_
      exact hkx144 S
    · refine dj_aload_n C 0 rfl dX9_walk_116 ?_
      refine dj_getr (r := 16) (k2 := 98) C dl_X9_57 rfl dz_82 rfl dX9_walk_117 ?_
      refine dj_bipush C dX9_walk_120 dc_bipush_13 ?_
      refine dj_iload C 5 rfl dX9_walk_122 ?_
      refine dj_iadd C dX9_walk_124 ?_
      refine dj_aload_n C 0 rfl dX9_walk_125 ?_
      refine dj_getr (r := 10) (k2 := 92) C dl_X9_39 rfl dz_82 rfl dX9_walk_126 ?_
      refine dj_bipush C dX9_walk_129 dc_bipush_101 ?_
      refine dj_iload_n C 1 rfl dX9_walk_131 ?_
      refine dj_imul C dX9_walk_132 ?_
      refine dj_iload C 5 rfl dX9_walk_133 ?_
      refine dj_iadd C dX9_walk_135 ?_
      refine dj_iald (n := 404) C dz_92 (by decide) dX9_walk_136 ?_
      refine dj_iast (n := 456) C dz_98 (by decide) dX9_walk_137 (fun S24 => ?_)
      refine dj_iinc (lv2 := [(0, .ref (g.1 82)), (2, .int x2), (3, .int x3), (4, .int x4), (5, .int x5), (6, .int (x6 + 1))]) C 5 rfl [1, 2, 3, 4, 5, 0] dX9_walk_138 dc_iconst_1 (by decide) rfl ?_
      refine dj_goto (tgt := 109) C dX9_walk_141 (by decide) ?_
      exact ih (x6 + 1) S24
set_option maxRecDepth 100000 in
set_option maxHeartbeats 4000000 in
theorem jX9_walk_L74 {p : Program} {l : Launch} {e : Env} {R : Room} {s : State} {m : MethodId} {args : Array Value} {below : List Frame} {meth : Method} {c : Code} {g : dk_G} (C : dk_C p l e R s m args below meth c g cX9_walk "DuckWalkModel" 7 (some .int)) (hR : R = { frames := 2, cells := 0, slots := 0, locals := 42 }) (x1 : Int32) (x2 : Int32) (x3 : Int32) (x4 : Int32) (x5 : Int32) (kx106 : dk_S → Option (Int32 × dk_S))  (hkx106 : ∀ t : dk_S, dk_J p l e R s m args below meth c g 7 dk_qi 106 [(0, .ref (g.1 82)), (2, .int x2), (3, .int x3), (4, .int x4), (5, .int x5)] [] t (kx106 t) some) : ∀ (n : Nat) (x6 : Int32) (S : dk_S), dk_J p l e R s m args below meth c g 7 dk_qi 74 [(0, .ref (g.1 82)), (1, .int x1), (2, .int x2), (3, .int x3), (4, .int x4), (5, .int x5), (6, .int x6)] [] S (fX9_walk_L74 x1 x2 x3 x4 x5 kx106 n x6 S) some := by
  subst hR
  intro n
  induction n with
  | zero =>
    intro x6 S
    exact dj_none
  | succ n ih =>
    intro x6 S
    rw [fX9_walk_L74]
    refine dj_iload C 6 rfl dX9_walk_74 ?_
    refine dj_bipush C dX9_walk_76 dc_bipush_6 ?_
    refine dj_icmp_ge (tgt := 106) C dX9_walk_78 (by decide) (fun c25 => ?_) (fun c25 => ?_)
    · refine dj_sub (lv2 := [(0, .ref (g.1 82)), (2, .int x2), (3, .int x3), (4, .int x4), (5, .int x5)]) [0, 2, 3, 4, 5] rfl ?_
      exact hkx106 S
    · refine dj_aload_n C 0 rfl dX9_walk_81 ?_
      refine dj_getr (r := 16) (k2 := 98) C dl_X9_57 rfl dz_82 rfl dX9_walk_82 ?_
      refine dj_iload C 6 rfl dX9_walk_85 ?_
      refine dj_aload_n C 0 rfl dX9_walk_87 ?_
      refine dj_getr (r := 8) (k2 := 90) C dl_X9_33 rfl dz_82 rfl dX9_walk_88 ?_
      refine dj_bipush C dX9_walk_91 dc_bipush_7 ?_
      refine dj_iload_n C 1 rfl dX9_walk_93 ?_
      refine dj_imul C dX9_walk_94 ?_
      refine dj_iload C 6 rfl dX9_walk_95 ?_
      refine dj_iadd C dX9_walk_97 ?_
      refine dj_iald (n := 28) C dz_90 (by decide) dX9_walk_98 ?_
      refine dj_iast (n := 456) C dz_98 (by decide) dX9_walk_99 (fun S26 => ?_)
      refine dj_iinc (lv2 := [(0, .ref (g.1 82)), (1, .int x1), (2, .int x2), (3, .int x3), (4, .int x4), (5, .int x5), (6, .int (x6 + 1))]) C 6 rfl [1, 2, 3, 4, 5, 6, 0] dX9_walk_100 dc_iconst_1 (by decide) rfl ?_
      refine dj_goto (tgt := 74) C dX9_walk_103 (by decide) ?_
      exact ih (x6 + 1) S26
set_option maxRecDepth 100000 in
set_option maxHeartbeats 4000000 in
theorem ct_X9_walk (l : Launch) (g : dk_G) (x1 : Int32) (x2 : Int32) (x3 : Int32) (x4 : Int32) (x5 : Int32) (S : dk_S)  : dk_M l g yX9_walk cX9_walk 7 (some .int) 2 42 [.ref (g.1 82), .int x1, .int x2, .int x3, .int x4, .int x5] S (fX9_walk x1 x2 x3 x4 x5 S) dk_qi := by
  refine dk_enter "DuckWalkModel" (by decide +kernel) rfl (Nat.le_of_ble_eq_true rfl) [(0, .ref (g.1 82)), (1, .int x1), (2, .int x2), (3, .int x3), (4, .int x4), (5, .int x5)] rfl ?_
  intro p e s m args below meth c C
  unfold fX9_walk
  refine dj_iload_n C 1 rfl dX9_walk_0 ?_
  refine dj_callSi (As := [.int x1]) C dw_X9_139 (ct_X9_isPlace l g x1 S) ⟨Nat.le_of_ble_eq_true rfl, Nat.le_of_ble_eq_true rfl⟩ rfl (Nat.le_of_ble_eq_true rfl) rfl dX9_walk_1 (fun r1 => ?_)
  refine dj_if_eq (tgt := 45) C dX9_walk_4 (by decide) (fun c2 => ?_) (fun c2 => ?_)
  · refine dj_iconst C dX9_walk_45 dc_iconst_m1 ?_
    exact dj_iret C dX9_walk_46
  · refine dj_iload_n C 2 rfl dX9_walk_7 ?_
    refine dj_callSi (As := [.int x2]) C dw_X9_139 (ct_X9_isPlace l g x2 r1.2) ⟨Nat.le_of_ble_eq_true rfl, Nat.le_of_ble_eq_true rfl⟩ rfl (Nat.le_of_ble_eq_true rfl) rfl dX9_walk_8 (fun r3 => ?_)
    refine dj_if_eq (tgt := 45) C dX9_walk_11 (by decide) (fun c4 => ?_) (fun c4 => ?_)
    · refine dj_iconst C dX9_walk_45 dc_iconst_m1 ?_
      exact dj_iret C dX9_walk_46
    · refine dj_iload_n C 3 rfl dX9_walk_14 ?_
      refine dj_iconst C dX9_walk_15 dc_iconst_0 ?_
      refine dj_bipush C dX9_walk_16 dc_bipush_99 ?_
      refine dj_callSi (As := [.int x3, .int 0, .int 99]) C dw_X9_80 (ct_X9_in l g x3 0 99 r3.2) ⟨Nat.le_of_ble_eq_true rfl, Nat.le_of_ble_eq_true rfl⟩ rfl (Nat.le_of_ble_eq_true rfl) rfl dX9_walk_18 (fun r5 => ?_)
      refine dj_if_eq (tgt := 45) C dX9_walk_21 (by decide) (fun c6 => ?_) (fun c6 => ?_)
      · refine dj_iconst C dX9_walk_45 dc_iconst_m1 ?_
        exact dj_iret C dX9_walk_46
      · refine dj_iload C 4 rfl dX9_walk_24 ?_
        refine dj_iconst C dX9_walk_26 dc_iconst_0 ?_
        refine dj_bipush C dX9_walk_27 dc_bipush_99 ?_
        refine dj_callSi (As := [.int x4, .int 0, .int 99]) C dw_X9_80 (ct_X9_in l g x4 0 99 r5.2) ⟨Nat.le_of_ble_eq_true rfl, Nat.le_of_ble_eq_true rfl⟩ rfl (Nat.le_of_ble_eq_true rfl) rfl dX9_walk_29 (fun r7 => ?_)
        refine dj_if_eq (tgt := 45) C dX9_walk_32 (by decide) (fun c8 => ?_) (fun c8 => ?_)
        · refine dj_iconst C dX9_walk_45 dc_iconst_m1 ?_
          exact dj_iret C dX9_walk_46
        · refine dj_iload C 5 rfl dX9_walk_35 ?_
          refine dj_iconst C dX9_walk_37 dc_iconst_0 ?_
          refine dj_iconst C dX9_walk_38 dc_iconst_1 ?_
          refine dj_callSi (As := [.int x5, .int 0, .int 1]) C dw_X9_80 (ct_X9_in l g x5 0 1 r7.2) ⟨Nat.le_of_ble_eq_true rfl, Nat.le_of_ble_eq_true rfl⟩ rfl (Nat.le_of_ble_eq_true rfl) rfl dX9_walk_39 (fun r9 => ?_)
          refine dj_if_ne (tgt := 47) C dX9_walk_42 (by decide) (fun c10 => ?_) (fun c10 => ?_)
          · refine dj_aload_n C 0 rfl dX9_walk_47 ?_
            refine dj_getr (r := 7) (k2 := 89) C dl_X9_29 rfl dz_82 rfl dX9_walk_48 ?_
            refine dj_iload_n C 1 rfl dX9_walk_51 ?_
            refine dj_zald (n := 4) C dz_89 (by decide) dX9_walk_52 ?_
            refine dj_if_eq (tgt := 65) C dX9_walk_53 (by decide) (fun c11 => ?_) (fun c11 => ?_)
            · refine dj_aload_n C 0 rfl dX9_walk_65 ?_
              refine dj_iconst C dX9_walk_66 dc_iconst_1 ?_
              refine dj_callVi (t := 9) (As := [.int 1]) C dw_X9_94 ⟨_, _, rfl⟩ (by decide) dz_82 (ct_X9_notes l g 1 r9.2) ⟨Nat.le_of_ble_eq_true rfl, Nat.le_of_ble_eq_true rfl⟩ rfl (Nat.le_of_ble_eq_true rfl) rfl dX9_walk_67 (fun r12 => ?_)
              exact dj_iret C dX9_walk_70
            · refine dj_aload_n C 0 rfl dX9_walk_56 ?_
              refine dj_getr (r := 9) (k2 := 91) C dl_X9_36 rfl dz_82 rfl dX9_walk_57 ?_
              refine dj_iload_n C 2 rfl dX9_walk_60 ?_
              refine dj_zald (n := 4) C dz_91 (by decide) dX9_walk_61 ?_
              refine dj_if_ne (tgt := 71) C dX9_walk_62 (by decide) (fun c13 => ?_) (fun c13 => ?_)
              · refine dj_iconst C dX9_walk_71 dc_iconst_0 ?_
                refine dj_istore (lv2 := [(0, .ref (g.1 82)), (1, .int x1), (2, .int x2), (3, .int x3), (4, .int x4), (5, .int x5), (6, .int 0)]) C [1, 2, 3, 4, 5, 6, 0] dX9_walk_72 (by decide) rfl ?_
                refine jX9_walk_L74 C rfl x1 x2 x3 x4 x5 _ (fun t14 => ?_) dk_FU 0 r9.2
                · refine dj_iconst C dX9_walk_106 dc_iconst_0 ?_
                  refine dj_istore (lv2 := [(0, .ref (g.1 82)), (2, .int x2), (3, .int x3), (4, .int x4), (5, .int x5), (6, .int 0)]) C [1, 2, 3, 4, 5, 0] dX9_walk_107 (by decide) rfl ?_
                  refine jX9_walk_L109 C rfl x2 x3 x4 x5 _ (fun t15 => ?_) dk_FU 0 t14
                  · refine dj_aload_n C 0 rfl dX9_walk_144 ?_
                    refine dj_getr (r := 16) (k2 := 98) C dl_X9_57 rfl dz_82 rfl dX9_walk_145 ?_
                    refine dj_bipush C dX9_walk_148 dc_bipush_6 ?_
                    refine dj_iload_n C 1 rfl dX9_walk_150 ?_
                    refine dj_iastn (n := 456) (j := 6) C dz_98 (by decide) (by decide) (by decide) dX9_walk_151 (fun S16 => ?_)
                    refine dj_aload_n C 0 rfl dX9_walk_152 ?_
                    refine dj_getr (r := 16) (k2 := 98) C dl_X9_57 rfl dz_82 rfl dX9_walk_153 ?_
                    refine dj_bipush C dX9_walk_156 dc_bipush_9 ?_
                    refine dj_iconst C dX9_walk_158 dc_iconst_0 ?_
                    refine dj_iastn (n := 456) (j := 9) C dz_98 (by decide) (by decide) (by decide) dX9_walk_159 (fun S17 => ?_)
                    refine dj_aload_n C 0 rfl dX9_walk_160 ?_
                    refine dj_iload C 2 rfl dX9_walk_161 ?_
                    refine dj_iload C 3 rfl dX9_walk_163 ?_
                    refine dj_callVv (t := 9) (As := [.int x4, .int x5]) C dw_X9_183 ⟨_, _, rfl⟩ (by decide) dz_82 (ct_X9_starts l g x4 x5 S17) ⟨Nat.le_of_ble_eq_true rfl, Nat.le_of_ble_eq_true rfl⟩ rfl (Nat.le_of_ble_eq_true rfl) rfl dX9_walk_165 (fun r18 => ?_)
                    refine dj_aload_n C 0 rfl dX9_walk_168 ?_
                    refine dj_callVv (t := 9) (As := []) C dw_X9_187 ⟨_, _, rfl⟩ (by decide) dz_82 (ct_X9_storeWalk l g r18) ⟨Nat.le_of_ble_eq_true rfl, Nat.le_of_ble_eq_true rfl⟩ rfl (Nat.le_of_ble_eq_true rfl) rfl dX9_walk_169 (fun r19 => ?_)
                    refine dj_aload_n C 0 rfl dX9_walk_172 ?_
                    refine dj_getr (r := 15) (k2 := 97) C dl_X9_54 rfl dz_82 rfl dX9_walk_173 ?_
                    refine dj_iconst C dX9_walk_176 dc_iconst_0 ?_
                    refine dj_iconst C dX9_walk_177 dc_iconst_1 ?_
                    refine dj_zastn (n := 4) (j := 0) C dz_97 (by decide) (by decide) (by decide) dX9_walk_178 (fun S20 => ?_)
                    refine dj_aload_n C 0 rfl dX9_walk_179 ?_
                    refine dj_callVv (t := 9) (As := []) C dw_X9_190 ⟨_, _, rfl⟩ (by decide) dz_82 (ct_X9_layWalk l g S20) ⟨Nat.le_of_ble_eq_true rfl, Nat.le_of_ble_eq_true rfl⟩ rfl (Nat.le_of_ble_eq_true rfl) rfl dX9_walk_180 (fun r21 => ?_)
                    refine dj_aload_n C 0 rfl dX9_walk_183 ?_
                    refine dj_callVi (t := 9) (As := []) C dw_X9_169 ⟨_, _, rfl⟩ (by decide) dz_82 (ct_X9_gain l g r21) ⟨Nat.le_of_ble_eq_true rfl, Nat.le_of_ble_eq_true rfl⟩ rfl (Nat.le_of_ble_eq_true rfl) rfl dX9_walk_184 (fun r22 => ?_)
                    exact dj_iret C dX9_walk_187
              · refine dj_aload_n C 0 rfl dX9_walk_65 ?_
                refine dj_iconst C dX9_walk_66 dc_iconst_1 ?_
                refine dj_callVi (t := 9) (As := [.int 1]) C dw_X9_94 ⟨_, _, rfl⟩ (by decide) dz_82 (ct_X9_notes l g 1 r9.2) ⟨Nat.le_of_ble_eq_true rfl, Nat.le_of_ble_eq_true rfl⟩ rfl (Nat.le_of_ble_eq_true rfl) rfl dX9_walk_67 (fun r27 => ?_)
                exact dj_iret C dX9_walk_70
          · refine dj_iconst C dX9_walk_45 dc_iconst_m1 ?_
            exact dj_iret C dX9_walk_46
noncomputable def fX9_walksOn  (S : dk_S) : Option (Int32 × dk_S) := if (S.1 82 27) = 0 then dk_lt (S.1 98 9) (fun y2 : Int32 => dk_lt (fun t3 : Int32 × dk_S => ((fX9_step t3.1 t3.2).bind (fun r5 => dk_lt (dk_si r5 98 9 ((r5.1 98 9) + 1)) (fun S6 => some (1, S6))) : Option (Int32 × dk_S))) (fun k4 => if 99 < y2 then k4 (0, S) else dk_gd (dk_in (14 + y2) 456) (k4 (S.1 98 (14 + y2).toNatClampNeg, S)))) else some (0, S)
set_option maxRecDepth 100000 in
set_option maxHeartbeats 4000000 in
theorem ct_X9_walksOn (l : Launch) (g : dk_G)  (S : dk_S)  : dk_M l g yX9_walksOn cX9_walksOn 2 (some .boolean) 2 43 [.ref (g.1 82)] S (fX9_walksOn  S) dk_qi := by
  refine dk_enter "DuckWalkModel" (by decide +kernel) rfl (Nat.le_of_ble_eq_true rfl) [(0, .ref (g.1 82))] rfl ?_
  intro p e s m args below meth c C
  unfold fX9_walksOn
  refine dj_aload_n C 0 rfl dX9_walksOn_0 ?_
  refine dj_geti C dl_X9_160 rfl dz_82 dX9_walksOn_1 ?_
  refine dj_if_eq (tgt := 9) C dX9_walksOn_4 (by decide) (fun c1 => ?_) (fun c1 => ?_)
  · refine dj_aload_n C 0 rfl dX9_walksOn_9 ?_
    refine dj_getr (r := 16) (k2 := 98) C dl_X9_57 rfl dz_82 rfl dX9_walksOn_10 ?_
    refine dj_bipush C dX9_walksOn_13 dc_bipush_9 ?_
    refine dj_ialdn (n := 456) (j := 9) C dz_98 (by decide) (by decide) (by decide) dX9_walksOn_15 ?_
    refine dj_lti (fun y2 => ?_)
    refine dj_istore_n (lv2 := [(0, .ref (g.1 82)), (1, .int y2)]) C [1, 0] dX9_walksOn_16 rfl (by decide) rfl ?_
    refine dj_aload_n C 0 rfl dX9_walksOn_17 ?_
    refine dj_iload_n C 1 rfl dX9_walksOn_18 ?_
    refine dj_bipush C dX9_walksOn_19 dc_bipush_99 ?_
    refine dj_join 37 (fun t3 : Int32 × dk_S => [(0, .ref (g.1 82))]) (fun t3 : Int32 × dk_S => [.int t3.1, .ref (g.1 82)]) (fun t3 : Int32 × dk_S => t3.2) (fun t3 => ?_) (fun k4 hk4 => ?_)
    · refine dj_callVv (t := 9) (As := [.int t3.1]) C dw_X9_179 ⟨_, _, rfl⟩ (by decide) dz_82 (ct_X9_step l g t3.1 t3.2) ⟨Nat.le_of_ble_eq_true rfl, Nat.le_of_ble_eq_true rfl⟩ rfl (Nat.le_of_ble_eq_true rfl) rfl dX9_walksOn_37 (fun r5 => ?_)
      refine dj_aload_n C 0 rfl dX9_walksOn_40 ?_
      refine dj_getr (r := 16) (k2 := 98) C dl_X9_57 rfl dz_82 rfl dX9_walksOn_41 ?_
      refine dj_bipush C dX9_walksOn_44 dc_bipush_9 ?_
      refine dj_dup2 C dX9_walksOn_46 rfl rfl ?_
      refine dj_ialdn (n := 456) (j := 9) C dz_98 (by decide) (by decide) (by decide) dX9_walksOn_47 ?_
      refine dj_iconst C dX9_walksOn_48 dc_iconst_1 ?_
      refine dj_iadd C dX9_walksOn_49 ?_
      refine dj_iastn (n := 456) (j := 9) C dz_98 (by decide) (by decide) (by decide) dX9_walksOn_50 (fun S6 => ?_)
      refine dj_iconst C dX9_walksOn_51 dc_iconst_1 ?_
      exact dj_zret C rfl dX9_walksOn_52
    · refine dj_icmp_gt (tgt := 36) C dX9_walksOn_21 (by decide) (fun c7 => ?_) (fun c7 => ?_)
      · refine dj_iconst C dX9_walksOn_36 dc_iconst_0 ?_
        refine dj_sub (lv2 := [(0, .ref (g.1 82))]) [0] rfl ?_
        exact hk4 (0, S)
      · refine dj_aload_n C 0 rfl dX9_walksOn_24 ?_
        refine dj_getr (r := 16) (k2 := 98) C dl_X9_57 rfl dz_82 rfl dX9_walksOn_25 ?_
        refine dj_bipush C dX9_walksOn_28 dc_bipush_14 ?_
        refine dj_iload_n C 1 rfl dX9_walksOn_30 ?_
        refine dj_iadd C dX9_walksOn_31 ?_
        refine dj_iald (n := 456) C dz_98 (by decide) dX9_walksOn_32 ?_
        refine dj_goto (tgt := 37) C dX9_walksOn_33 (by decide) ?_
        refine dj_sub (lv2 := [(0, .ref (g.1 82))]) [0] rfl ?_
        exact hk4 (S.1 98 (14 + y2).toNatClampNeg, S)
  · refine dj_iconst C dX9_walksOn_7 dc_iconst_0 ?_
    exact dj_zret C rfl dX9_walksOn_8
noncomputable def fX9_go_L49 (x1 : Int32) : Nat → Int32 → dk_S → Option (Int32 × dk_S)
  | 0, _, _ => none
  | n + 1, x2, S => if x1 ≤ x2 then (fX9_storeWalk S).bind (fun r7 => some (x2, r7)) else (fX9_walksOn S).bind (fun r8 => if r8.1 = 0 then (fX9_storeWalk r8.2).bind (fun r10 => some (x2, r10)) else fX9_go_L49 x1 n (x2 + 1) r8.2)
noncomputable def fX9_go (x1 : Int32) (S : dk_S) : Option (Int32 × dk_S) := (fX9_in x1 0 400 S).bind (fun r1 => if r1.1 = 0 then some ((-1), r1.2) else if (r1.2.1 97 0) = 0 then some ((-4), r1.2) else if ((r1.2.1 98 9) + x1) ≤ 10000 then (fX9_layWalk r1.2).bind (fun r5 => fX9_go_L49 x1 dk_FU 0 r5) else some ((-6), r1.2))
set_option maxRecDepth 100000 in
set_option maxHeartbeats 4000000 in
theorem jX9_go_L49 {p : Program} {l : Launch} {e : Env} {R : Room} {s : State} {m : MethodId} {args : Array Value} {below : List Frame} {meth : Method} {c : Code} {g : dk_G} (C : dk_C p l e R s m args below meth c g cX9_go "DuckWalkModel" 3 (some .int)) (hR : R = { frames := 3, cells := 0, slots := 0, locals := 64 }) (x1 : Int32)   : ∀ (n : Nat) (x2 : Int32) (S : dk_S), dk_J p l e R s m args below meth c g 3 dk_qi 49 [(0, .ref (g.1 82)), (1, .int x1), (2, .int x2)] [] S (fX9_go_L49 x1 n x2 S) some := by
  subst hR
  intro n
  induction n with
  | zero =>
    intro x2 S
    exact dj_none
  | succ n ih =>
    intro x2 S
    rw [fX9_go_L49]
    refine dj_iload_n C 2 rfl dX9_go_49 ?_
    refine dj_iload_n C 1 rfl dX9_go_50 ?_
    refine dj_icmp_ge (tgt := 67) C dX9_go_51 (by decide) (fun c6 => ?_) (fun c6 => ?_)
    · refine dj_aload_n C 0 rfl dX9_go_67 ?_
      refine dj_callVv (t := 9) (As := []) C dw_X9_187 ⟨_, _, rfl⟩ (by decide) dz_82 (ct_X9_storeWalk l g S) ⟨Nat.le_of_ble_eq_true rfl, Nat.le_of_ble_eq_true rfl⟩ rfl (Nat.le_of_ble_eq_true rfl) rfl dX9_go_68 (fun r7 => ?_)
      refine dj_iload_n C 2 rfl dX9_go_71 ?_
      exact dj_iret C dX9_go_72
    · refine dj_aload_n C 0 rfl dX9_go_54 ?_
      refine dj_callVi (t := 9) (As := []) C dw_X9_193 ⟨_, _, rfl⟩ (by decide) dz_82 (ct_X9_walksOn l g S) ⟨Nat.le_of_ble_eq_true rfl, Nat.le_of_ble_eq_true rfl⟩ rfl (Nat.le_of_ble_eq_true rfl) rfl dX9_go_55 (fun r8 => ?_)
      refine dj_if_eq (tgt := 67) C dX9_go_58 (by decide) (fun c9 => ?_) (fun c9 => ?_)
      · refine dj_aload_n C 0 rfl dX9_go_67 ?_
        refine dj_callVv (t := 9) (As := []) C dw_X9_187 ⟨_, _, rfl⟩ (by decide) dz_82 (ct_X9_storeWalk l g r8.2) ⟨Nat.le_of_ble_eq_true rfl, Nat.le_of_ble_eq_true rfl⟩ rfl (Nat.le_of_ble_eq_true rfl) rfl dX9_go_68 (fun r10 => ?_)
        refine dj_iload_n C 2 rfl dX9_go_71 ?_
        exact dj_iret C dX9_go_72
      · refine dj_iinc (lv2 := [(0, .ref (g.1 82)), (1, .int x1), (2, .int (x2 + 1))]) C 2 rfl [1, 2, 0] dX9_go_61 dc_iconst_1 (by decide) rfl ?_
        refine dj_goto (tgt := 49) C dX9_go_64 (by decide) ?_
        exact ih (x2 + 1) r8.2
set_option maxRecDepth 100000 in
set_option maxHeartbeats 4000000 in
theorem ct_X9_go (l : Launch) (g : dk_G) (x1 : Int32) (S : dk_S)  : dk_M l g yX9_go cX9_go 3 (some .int) 3 64 [.ref (g.1 82), .int x1] S (fX9_go x1 S) dk_qi := by
  refine dk_enter "DuckWalkModel" (by decide +kernel) rfl (Nat.le_of_ble_eq_true rfl) [(0, .ref (g.1 82)), (1, .int x1)] rfl ?_
  intro p e s m args below meth c C
  unfold fX9_go
  refine dj_iload_n C 1 rfl dX9_go_0 ?_
  refine dj_iconst C dX9_go_1 dc_iconst_0 ?_
  refine dj_sipush C dX9_go_2 dc_sipush_400 ?_
  refine dj_callSi (As := [.int x1, .int 0, .int 400]) C dw_X9_80 (ct_X9_in l g x1 0 400 S) ⟨Nat.le_of_ble_eq_true rfl, Nat.le_of_ble_eq_true rfl⟩ rfl (Nat.le_of_ble_eq_true rfl) rfl dX9_go_5 (fun r1 => ?_)
  refine dj_if_ne (tgt := 13) C dX9_go_8 (by decide) (fun c2 => ?_) (fun c2 => ?_)
  · refine dj_aload_n C 0 rfl dX9_go_13 ?_
    refine dj_getr (r := 15) (k2 := 97) C dl_X9_54 rfl dz_82 rfl dX9_go_14 ?_
    refine dj_iconst C dX9_go_17 dc_iconst_0 ?_
    refine dj_zaldn (n := 4) (j := 0) C dz_97 (by decide) (by decide) (by decide) dX9_go_18 ?_
    refine dj_if_ne (tgt := 25) C dX9_go_19 (by decide) (fun c3 => ?_) (fun c3 => ?_)
    · refine dj_aload_n C 0 rfl dX9_go_25 ?_
      refine dj_getr (r := 16) (k2 := 98) C dl_X9_57 rfl dz_82 rfl dX9_go_26 ?_
      refine dj_bipush C dX9_go_29 dc_bipush_9 ?_
      refine dj_ialdn (n := 456) (j := 9) C dz_98 (by decide) (by decide) (by decide) dX9_go_31 ?_
      refine dj_iload_n C 1 rfl dX9_go_32 ?_
      refine dj_iadd C dX9_go_33 ?_
      refine dj_sipush C dX9_go_34 dc_sipush_10000 ?_
      refine dj_icmp_le (tgt := 43) C dX9_go_37 (by decide) (fun c4 => ?_) (fun c4 => ?_)
      · refine dj_aload_n C 0 rfl dX9_go_43 ?_
        refine dj_callVv (t := 9) (As := []) C dw_X9_190 ⟨_, _, rfl⟩ (by decide) dz_82 (ct_X9_layWalk l g r1.2) ⟨Nat.le_of_ble_eq_true rfl, Nat.le_of_ble_eq_true rfl⟩ rfl (Nat.le_of_ble_eq_true rfl) rfl dX9_go_44 (fun r5 => ?_)
        refine dj_iconst C dX9_go_47 dc_iconst_0 ?_
        refine dj_istore_n (lv2 := [(0, .ref (g.1 82)), (1, .int x1), (2, .int 0)]) C [1, 2, 0] dX9_go_48 rfl (by decide) rfl ?_
        refine jX9_go_L49 C rfl x1 dk_FU 0 r5
      · refine dj_bipush C dX9_go_40 dc_bipush_m6 ?_
        exact dj_iret C dX9_go_42
    · refine dj_bipush C dX9_go_22 dc_bipush_m4 ?_
      exact dj_iret C dX9_go_24
  · refine dj_iconst C dX9_go_11 dc_iconst_m1 ?_
    exact dj_iret C dX9_go_12
noncomputable def fX9_walkTells (x1 : Int32) (S : dk_S) : Option (Int32 × dk_S) := if x1 = 0 then some (S.1 98 7, S) else if x1 = 1 then some (S.1 98 8, S) else if x1 = 2 then some (S.1 98 9, S) else if x1 = 3 then some (S.1 98 10, S) else if x1 = 4 then some (S.1 98 6, S) else if x1 = 5 then some (S.1 98 11, S) else some (S.1 98 12, S)
set_option maxRecDepth 100000 in
set_option maxHeartbeats 4000000 in
theorem ct_X9_walkTells (l : Launch) (g : dk_G) (x1 : Int32) (S : dk_S)  : dk_M l g yX9_walkTells cX9_walkTells 2 (some .int) 0 0 [.ref (g.1 82), .int x1] S (fX9_walkTells x1 S) dk_qi := by
  refine dk_enter "DuckWalkModel" (by decide +kernel) rfl (Nat.le_of_ble_eq_true rfl) [(0, .ref (g.1 82)), (1, .int x1)] rfl ?_
  intro p e s m args below meth c C
  unfold fX9_walkTells
  refine dj_iload_n C 1 rfl dX9_walkTells_0 ?_
  refine dj_ite (fun h1 => ?_) (fun h1 => ?_)
  · refine dj_tsw_in (off := 39) (tgt := 40) C dX9_walkTells_1 (by rw [h1]; decide) (by rw [h1]; decide) (by rw [h1]; rfl) (by decide) ?_
    refine dj_aload_n C 0 rfl dX9_walkTells_40 ?_
    refine dj_getr (r := 16) (k2 := 98) C dl_X9_57 rfl dz_82 rfl dX9_walkTells_41 ?_
    refine dj_bipush C dX9_walkTells_44 dc_bipush_7 ?_
    refine dj_ialdn (n := 456) (j := 7) C dz_98 (by decide) (by decide) (by decide) dX9_walkTells_46 ?_
    exact dj_iret C dX9_walkTells_47
  · refine dj_ite (fun h2 => ?_) (fun h2 => ?_)
    · refine dj_tsw_in (off := 47) (tgt := 48) C dX9_walkTells_1 (by rw [h2]; decide) (by rw [h2]; decide) (by rw [h2]; rfl) (by decide) ?_
      refine dj_aload_n C 0 rfl dX9_walkTells_48 ?_
      refine dj_getr (r := 16) (k2 := 98) C dl_X9_57 rfl dz_82 rfl dX9_walkTells_49 ?_
      refine dj_bipush C dX9_walkTells_52 dc_bipush_8 ?_
      refine dj_ialdn (n := 456) (j := 8) C dz_98 (by decide) (by decide) (by decide) dX9_walkTells_54 ?_
      exact dj_iret C dX9_walkTells_55
    · refine dj_ite (fun h3 => ?_) (fun h3 => ?_)
      · refine dj_tsw_in (off := 55) (tgt := 56) C dX9_walkTells_1 (by rw [h3]; decide) (by rw [h3]; decide) (by rw [h3]; rfl) (by decide) ?_
        refine dj_aload_n C 0 rfl dX9_walkTells_56 ?_
        refine dj_getr (r := 16) (k2 := 98) C dl_X9_57 rfl dz_82 rfl dX9_walkTells_57 ?_
        refine dj_bipush C dX9_walkTells_60 dc_bipush_9 ?_
        refine dj_ialdn (n := 456) (j := 9) C dz_98 (by decide) (by decide) (by decide) dX9_walkTells_62 ?_
        exact dj_iret C dX9_walkTells_63
      · refine dj_ite (fun h4 => ?_) (fun h4 => ?_)
        · refine dj_tsw_in (off := 63) (tgt := 64) C dX9_walkTells_1 (by rw [h4]; decide) (by rw [h4]; decide) (by rw [h4]; rfl) (by decide) ?_
          refine dj_aload_n C 0 rfl dX9_walkTells_64 ?_
          refine dj_getr (r := 16) (k2 := 98) C dl_X9_57 rfl dz_82 rfl dX9_walkTells_65 ?_
          refine dj_bipush C dX9_walkTells_68 dc_bipush_10 ?_
          refine dj_ialdn (n := 456) (j := 10) C dz_98 (by decide) (by decide) (by decide) dX9_walkTells_70 ?_
          exact dj_iret C dX9_walkTells_71
        · refine dj_ite (fun h5 => ?_) (fun h5 => ?_)
          · refine dj_tsw_in (off := 71) (tgt := 72) C dX9_walkTells_1 (by rw [h5]; decide) (by rw [h5]; decide) (by rw [h5]; rfl) (by decide) ?_
            refine dj_aload_n C 0 rfl dX9_walkTells_72 ?_
            refine dj_getr (r := 16) (k2 := 98) C dl_X9_57 rfl dz_82 rfl dX9_walkTells_73 ?_
            refine dj_bipush C dX9_walkTells_76 dc_bipush_6 ?_
            refine dj_ialdn (n := 456) (j := 6) C dz_98 (by decide) (by decide) (by decide) dX9_walkTells_78 ?_
            exact dj_iret C dX9_walkTells_79
          · refine dj_ite (fun h6 => ?_) (fun h6 => ?_)
            · refine dj_tsw_in (off := 79) (tgt := 80) C dX9_walkTells_1 (by rw [h6]; decide) (by rw [h6]; decide) (by rw [h6]; rfl) (by decide) ?_
              refine dj_aload_n C 0 rfl dX9_walkTells_80 ?_
              refine dj_getr (r := 16) (k2 := 98) C dl_X9_57 rfl dz_82 rfl dX9_walkTells_81 ?_
              refine dj_bipush C dX9_walkTells_84 dc_bipush_11 ?_
              refine dj_ialdn (n := 456) (j := 11) C dz_98 (by decide) (by decide) (by decide) dX9_walkTells_86 ?_
              exact dj_iret C dX9_walkTells_87
            · refine dj_tsw_d (tgt := 88) C dX9_walkTells_1 ?_ (by decide) ?_
              · have e0 : x1.toInt ≠ 0 := fun e => h1 (dk_teq e (by decide))
                have e1 : x1.toInt ≠ 1 := fun e => h2 (dk_teq e (by decide))
                have e2 : x1.toInt ≠ 2 := fun e => h3 (dk_teq e (by decide))
                have e3 : x1.toInt ≠ 3 := fun e => h4 (dk_teq e (by decide))
                have e4 : x1.toInt ≠ 4 := fun e => h5 (dk_teq e (by decide))
                have e5 : x1.toInt ≠ 5 := fun e => h6 (dk_teq e (by decide))
                rcases (show x1.toInt < 0 ∨ 5 < x1.toInt by omega) with h | h
                · exact Or.inl h
                · exact Or.inr (Or.inl h)
              · refine dj_aload_n C 0 rfl dX9_walkTells_88 ?_
                refine dj_getr (r := 16) (k2 := 98) C dl_X9_57 rfl dz_82 rfl dX9_walkTells_89 ?_
                refine dj_bipush C dX9_walkTells_92 dc_bipush_12 ?_
                refine dj_ialdn (n := 456) (j := 12) C dz_98 (by decide) (by decide) (by decide) dX9_walkTells_94 ?_
                exact dj_iret C dX9_walkTells_95
noncomputable def fX9_told (x1 : Int32) (S : dk_S) : Option (Int32 × dk_S) := (fX9_in x1 0 6 S).bind (fun r1 => if r1.1 = 0 then some ((-1), r1.2) else if (r1.2.1 97 0) = 0 then some ((-4), r1.2) else (fX9_walkTells x1 r1.2).bind (fun r4 => (fX9_tells r4.1 1 r4.2).bind (fun r5 => some (r5.1, r5.2))))
set_option maxRecDepth 100000 in
set_option maxHeartbeats 4000000 in
theorem ct_X9_told (l : Launch) (g : dk_G) (x1 : Int32) (S : dk_S)  : dk_M l g yX9_told cX9_told 2 (some .int) 1 22 [.ref (g.1 82), .int x1] S (fX9_told x1 S) dk_qi := by
  refine dk_enter "DuckWalkModel" (by decide +kernel) rfl (Nat.le_of_ble_eq_true rfl) [(0, .ref (g.1 82)), (1, .int x1)] rfl ?_
  intro p e s m args below meth c C
  unfold fX9_told
  refine dj_iload_n C 1 rfl dX9_told_0 ?_
  refine dj_iconst C dX9_told_1 dc_iconst_0 ?_
  refine dj_bipush C dX9_told_2 dc_bipush_6 ?_
  refine dj_callSi (As := [.int x1, .int 0, .int 6]) C dw_X9_80 (ct_X9_in l g x1 0 6 S) ⟨Nat.le_of_ble_eq_true rfl, Nat.le_of_ble_eq_true rfl⟩ rfl (Nat.le_of_ble_eq_true rfl) rfl dX9_told_4 (fun r1 => ?_)
  refine dj_if_ne (tgt := 12) C dX9_told_7 (by decide) (fun c2 => ?_) (fun c2 => ?_)
  · refine dj_aload_n C 0 rfl dX9_told_12 ?_
    refine dj_getr (r := 15) (k2 := 97) C dl_X9_54 rfl dz_82 rfl dX9_told_13 ?_
    refine dj_iconst C dX9_told_16 dc_iconst_0 ?_
    refine dj_zaldn (n := 4) (j := 0) C dz_97 (by decide) (by decide) (by decide) dX9_told_17 ?_
    refine dj_if_eq (tgt := 34) C dX9_told_18 (by decide) (fun c3 => ?_) (fun c3 => ?_)
    · refine dj_bipush C dX9_told_34 dc_bipush_m4 ?_
      exact dj_iret C dX9_told_36
    · refine dj_aload_n C 0 rfl dX9_told_21 ?_
      refine dj_aload_n C 0 rfl dX9_told_22 ?_
      refine dj_iload_n C 1 rfl dX9_told_23 ?_
      refine dj_callVi (t := 9) (As := [.int x1]) C dw_X9_197 ⟨_, _, rfl⟩ (by decide) dz_82 (ct_X9_walkTells l g x1 r1.2) ⟨Nat.le_of_ble_eq_true rfl, Nat.le_of_ble_eq_true rfl⟩ rfl (Nat.le_of_ble_eq_true rfl) rfl dX9_told_24 (fun r4 => ?_)
      refine dj_iconst C dX9_told_27 dc_iconst_1 ?_
      refine dj_callVi (t := 9) (As := [.int r4.1, .int 1]) C dw_X9_102 ⟨_, _, rfl⟩ (by decide) dz_82 (ct_X9_tells l g r4.1 1 r4.2) ⟨Nat.le_of_ble_eq_true rfl, Nat.le_of_ble_eq_true rfl⟩ rfl (Nat.le_of_ble_eq_true rfl) rfl dX9_told_28 (fun r5 => ?_)
      refine dj_goto (tgt := 36) C dX9_told_31 (by decide) ?_
      exact dj_iret C dX9_told_36
  · refine dj_iconst C dX9_told_10 dc_iconst_m1 ?_
    exact dj_iret C dX9_told_11
noncomputable def fX9_tocks_L65 (x1 : Int32) (x2 : Int32) : Nat → Int32 → Int32 → dk_S → Option (Int32 × dk_S)
  | 0, _, _, _ => none
  | n + 1, x3, x4, S => if 60 ≤ x4 then (fX9_storeWalk S).bind (fun r10 => some (x3, r10)) else dk_lt (fun t11 : Int32 × dk_S => (dk_lt (if t11.1 = 0 then 0 else t11.2.1 82 25) (fun y13 : Int32 => dk_gd (dk_in ((60 * x2) + x4) 360) (dk_lt (dk_si t11.2 85 ((60 * x2) + x4).toNatClampNeg y13) (fun S14 => dk_lt (if t11.1 = 0 then 0 else 1) (fun y15 : Int32 => dk_lt (x3 + y15) (fun y16 : Int32 => fX9_tocks_L65 x1 x2 n y16 (x4 + 1) S14))))) : Option (Int32 × dk_S))) (fun k12 => dk_lt (fun t19 : dk_S => (k12 (0, t19) : Option (Int32 × dk_S))) (fun k20 => if x1 ≤ x4 then k20 S else (fX9_walksOn S).bind (fun r22 => if r22.1 = 0 then k20 r22.2 else k12 (1, r22.2))))
noncomputable def fX9_tocks (x1 : Int32) (x2 : Int32) (S : dk_S) : Option (Int32 × dk_S) := (fX9_in x1 0 60 S).bind (fun r1 => if r1.1 = 0 then some ((-1), r1.2) else (fX9_isRow x2 r1.2).bind (fun r3 => if r3.1 = 0 then some ((-1), r3.2) else if (r3.2.1 97 0) = 0 then some ((-4), r3.2) else if ((r3.2.1 98 9) + x1) ≤ 10000 then (fX9_layWalk r3.2).bind (fun r7 => dk_gd (dk_in x2 6) (dk_lt (dk_si r7 84 x2.toNatClampNeg x1) (fun S8 => fX9_tocks_L65 x1 x2 dk_FU 0 0 S8))) else some ((-6), r3.2)))
set_option maxRecDepth 100000 in
set_option maxHeartbeats 4000000 in
theorem jX9_tocks_L65 {p : Program} {l : Launch} {e : Env} {R : Room} {s : State} {m : MethodId} {args : Array Value} {below : List Frame} {meth : Method} {c : Code} {g : dk_G} (C : dk_C p l e R s m args below meth c g cX9_tocks "DuckWalkModel" 6 (some .int)) (hR : R = { frames := 3, cells := 0, slots := 0, locals := 64 }) (x1 : Int32) (x2 : Int32)   : ∀ (n : Nat) (x3 : Int32) (x4 : Int32) (S : dk_S), dk_J p l e R s m args below meth c g 6 dk_qi 65 [(0, .ref (g.1 82)), (1, .int x1), (2, .int x2), (3, .int x3), (4, .int x4)] [] S (fX9_tocks_L65 x1 x2 n x3 x4 S) some := by
  subst hR
  intro n
  induction n with
  | zero =>
    intro x3 x4 S
    exact dj_none
  | succ n ih =>
    intro x3 x4 S
    rw [fX9_tocks_L65]
    refine dj_iload C 4 rfl dX9_tocks_65 ?_
    refine dj_bipush C dX9_tocks_67 dc_bipush_60 ?_
    refine dj_icmp_ge (tgt := 136) C dX9_tocks_69 (by decide) (fun c9 => ?_) (fun c9 => ?_)
    · refine dj_aload_n C 0 rfl dX9_tocks_136 ?_
      refine dj_callVv (t := 9) (As := []) C dw_X9_187 ⟨_, _, rfl⟩ (by decide) dz_82 (ct_X9_storeWalk l g S) ⟨Nat.le_of_ble_eq_true rfl, Nat.le_of_ble_eq_true rfl⟩ rfl (Nat.le_of_ble_eq_true rfl) rfl dX9_tocks_137 (fun r10 => ?_)
      refine dj_iload_n C 3 rfl dX9_tocks_140 ?_
      exact dj_iret C dX9_tocks_141
    · refine dj_iload C 4 rfl dX9_tocks_72 ?_
      refine dj_iload_n C 1 rfl dX9_tocks_74 ?_
      refine dj_join 90 (fun t11 : Int32 × dk_S => [(0, .ref (g.1 82)), (1, .int x1), (2, .int x2), (3, .int x3), (4, .int x4)]) (fun t11 : Int32 × dk_S => [.int t11.1]) (fun t11 : Int32 × dk_S => t11.2) (fun t11 => ?_) (fun k12 hk12 => ?_)
      · refine dj_istore (lv2 := [(0, .ref (g.1 82)), (1, .int x1), (2, .int x2), (3, .int x3), (4, .int x4), (5, .int t11.1)]) C [1, 2, 3, 4, 5, 0] dX9_tocks_90 (by decide) rfl ?_
        refine dj_aload_n C 0 rfl dX9_tocks_92 ?_
        refine dj_getr (r := 3) (k2 := 85) C dl_X9_16 rfl dz_82 rfl dX9_tocks_93 ?_
        refine dj_bipush C dX9_tocks_96 dc_bipush_60 ?_
        refine dj_iload_n C 2 rfl dX9_tocks_98 ?_
        refine dj_imul C dX9_tocks_99 ?_
        refine dj_iload C 4 rfl dX9_tocks_100 ?_
        refine dj_iadd C dX9_tocks_102 ?_
        refine dj_iload C 5 rfl dX9_tocks_103 ?_
        refine dj_dia 116 [.int ((60 * x2) + x4), .ref (g.1 85)] (fun y13 => ?_) (fun hd13 => ?_)
        · refine dj_iast (n := 360) C dz_85 (by decide) dX9_tocks_116 (fun S14 => ?_)
          refine dj_iload_n C 3 rfl dX9_tocks_117 ?_
          refine dj_iload C 5 rfl dX9_tocks_118 ?_
          refine dj_dia 128 [.int x3] (fun y15 => ?_) (fun hd15 => ?_)
          · refine dj_iadd C dX9_tocks_128 ?_
            refine dj_lti (fun y16 => ?_)
            refine dj_istore_n (lv2 := [(0, .ref (g.1 82)), (1, .int x1), (2, .int x2), (3, .int y16), (4, .int x4)]) C [1, 2, 3, 0, 4] dX9_tocks_129 rfl (by decide) rfl ?_
            refine dj_iinc (lv2 := [(0, .ref (g.1 82)), (1, .int x1), (2, .int x2), (3, .int y16), (4, .int (x4 + 1))]) C 4 rfl [1, 2, 3, 4, 0] dX9_tocks_130 dc_iconst_1 (by decide) rfl ?_
            refine dj_goto (tgt := 65) C dX9_tocks_133 (by decide) ?_
            exact ih y16 (x4 + 1) S14
          · refine dj_ltite ?_
            refine dj_if_eq (tgt := 127) C dX9_tocks_120 (by decide) (fun c17 => ?_) (fun c17 => ?_)
            · refine dj_iconst C dX9_tocks_127 dc_iconst_0 ?_
              exact hd15 _
            · refine dj_iconst C dX9_tocks_123 dc_iconst_1 ?_
              refine dj_goto (tgt := 128) C dX9_tocks_124 (by decide) ?_
              exact hd15 _
        · refine dj_ltite ?_
          refine dj_if_eq (tgt := 115) C dX9_tocks_105 (by decide) (fun c18 => ?_) (fun c18 => ?_)
          · refine dj_iconst C dX9_tocks_115 dc_iconst_0 ?_
            exact hd13 _
          · refine dj_aload_n C 0 rfl dX9_tocks_108 ?_
            refine dj_geti C dl_X9_154 rfl dz_82 dX9_tocks_109 ?_
            refine dj_goto (tgt := 116) C dX9_tocks_112 (by decide) ?_
            exact hd13 _
      · refine dj_join 89 (fun t19 : dk_S => [(0, .ref (g.1 82)), (1, .int x1), (2, .int x2), (3, .int x3), (4, .int x4)]) (fun t19 : dk_S => []) (fun t19 : dk_S => t19) (fun t19 => ?_) (fun k20 hk20 => ?_)
        · refine dj_iconst C dX9_tocks_89 dc_iconst_0 ?_
          exact hk12 (0, t19)
        · refine dj_icmp_ge (tgt := 89) C dX9_tocks_75 (by decide) (fun c21 => ?_) (fun c21 => ?_)
          · exact hk20 S
          · refine dj_aload_n C 0 rfl dX9_tocks_78 ?_
            refine dj_callVi (t := 9) (As := []) C dw_X9_193 ⟨_, _, rfl⟩ (by decide) dz_82 (ct_X9_walksOn l g S) ⟨Nat.le_of_ble_eq_true rfl, Nat.le_of_ble_eq_true rfl⟩ rfl (Nat.le_of_ble_eq_true rfl) rfl dX9_tocks_79 (fun r22 => ?_)
            refine dj_if_eq (tgt := 89) C dX9_tocks_82 (by decide) (fun c23 => ?_) (fun c23 => ?_)
            · exact hk20 r22.2
            · refine dj_iconst C dX9_tocks_85 dc_iconst_1 ?_
              refine dj_goto (tgt := 90) C dX9_tocks_86 (by decide) ?_
              exact hk12 (1, r22.2)
set_option maxRecDepth 100000 in
set_option maxHeartbeats 4000000 in
theorem ct_X9_tocks (l : Launch) (g : dk_G) (x1 : Int32) (x2 : Int32) (S : dk_S)  : dk_M l g yX9_tocks cX9_tocks 6 (some .int) 3 64 [.ref (g.1 82), .int x1, .int x2] S (fX9_tocks x1 x2 S) dk_qi := by
  refine dk_enter "DuckWalkModel" (by decide +kernel) rfl (Nat.le_of_ble_eq_true rfl) [(0, .ref (g.1 82)), (1, .int x1), (2, .int x2)] rfl ?_
  intro p e s m args below meth c C
  unfold fX9_tocks
  refine dj_iload_n C 1 rfl dX9_tocks_0 ?_
  refine dj_iconst C dX9_tocks_1 dc_iconst_0 ?_
  refine dj_bipush C dX9_tocks_2 dc_bipush_60 ?_
  refine dj_callSi (As := [.int x1, .int 0, .int 60]) C dw_X9_80 (ct_X9_in l g x1 0 60 S) ⟨Nat.le_of_ble_eq_true rfl, Nat.le_of_ble_eq_true rfl⟩ rfl (Nat.le_of_ble_eq_true rfl) rfl dX9_tocks_4 (fun r1 => ?_)
  refine dj_if_eq (tgt := 17) C dX9_tocks_7 (by decide) (fun c2 => ?_) (fun c2 => ?_)
  · refine dj_iconst C dX9_tocks_17 dc_iconst_m1 ?_
    exact dj_iret C dX9_tocks_18
  · refine dj_iload_n C 2 rfl dX9_tocks_10 ?_
    refine dj_callSi (As := [.int x2]) C dw_X9_90 (ct_X9_isRow l g x2 r1.2) ⟨Nat.le_of_ble_eq_true rfl, Nat.le_of_ble_eq_true rfl⟩ rfl (Nat.le_of_ble_eq_true rfl) rfl dX9_tocks_11 (fun r3 => ?_)
    refine dj_if_ne (tgt := 19) C dX9_tocks_14 (by decide) (fun c4 => ?_) (fun c4 => ?_)
    · refine dj_aload_n C 0 rfl dX9_tocks_19 ?_
      refine dj_getr (r := 15) (k2 := 97) C dl_X9_54 rfl dz_82 rfl dX9_tocks_20 ?_
      refine dj_iconst C dX9_tocks_23 dc_iconst_0 ?_
      refine dj_zaldn (n := 4) (j := 0) C dz_97 (by decide) (by decide) (by decide) dX9_tocks_24 ?_
      refine dj_if_ne (tgt := 31) C dX9_tocks_25 (by decide) (fun c5 => ?_) (fun c5 => ?_)
      · refine dj_aload_n C 0 rfl dX9_tocks_31 ?_
        refine dj_getr (r := 16) (k2 := 98) C dl_X9_57 rfl dz_82 rfl dX9_tocks_32 ?_
        refine dj_bipush C dX9_tocks_35 dc_bipush_9 ?_
        refine dj_ialdn (n := 456) (j := 9) C dz_98 (by decide) (by decide) (by decide) dX9_tocks_37 ?_
        refine dj_iload_n C 1 rfl dX9_tocks_38 ?_
        refine dj_iadd C dX9_tocks_39 ?_
        refine dj_sipush C dX9_tocks_40 dc_sipush_10000 ?_
        refine dj_icmp_le (tgt := 49) C dX9_tocks_43 (by decide) (fun c6 => ?_) (fun c6 => ?_)
        · refine dj_aload_n C 0 rfl dX9_tocks_49 ?_
          refine dj_callVv (t := 9) (As := []) C dw_X9_190 ⟨_, _, rfl⟩ (by decide) dz_82 (ct_X9_layWalk l g r3.2) ⟨Nat.le_of_ble_eq_true rfl, Nat.le_of_ble_eq_true rfl⟩ rfl (Nat.le_of_ble_eq_true rfl) rfl dX9_tocks_50 (fun r7 => ?_)
          refine dj_aload_n C 0 rfl dX9_tocks_53 ?_
          refine dj_getr (r := 2) (k2 := 84) C dl_X9_13 rfl dz_82 rfl dX9_tocks_54 ?_
          refine dj_iload_n C 2 rfl dX9_tocks_57 ?_
          refine dj_iload_n C 1 rfl dX9_tocks_58 ?_
          refine dj_iast (n := 6) C dz_84 (by decide) dX9_tocks_59 (fun S8 => ?_)
          refine dj_iconst C dX9_tocks_60 dc_iconst_0 ?_
          refine dj_istore_n (lv2 := [(0, .ref (g.1 82)), (1, .int x1), (2, .int x2), (3, .int 0)]) C [1, 2, 3, 0] dX9_tocks_61 rfl (by decide) rfl ?_
          refine dj_iconst C dX9_tocks_62 dc_iconst_0 ?_
          refine dj_istore (lv2 := [(0, .ref (g.1 82)), (1, .int x1), (2, .int x2), (3, .int 0), (4, .int 0)]) C [1, 2, 3, 4, 0] dX9_tocks_63 (by decide) rfl ?_
          refine jX9_tocks_L65 C rfl x1 x2 dk_FU 0 0 S8
        · refine dj_bipush C dX9_tocks_46 dc_bipush_m6 ?_
          exact dj_iret C dX9_tocks_48
      · refine dj_bipush C dX9_tocks_28 dc_bipush_m4 ?_
        exact dj_iret C dX9_tocks_30
    · refine dj_iconst C dX9_tocks_17 dc_iconst_m1 ?_
      exact dj_iret C dX9_tocks_18
noncomputable def fX9_tilt (x1 : Int32) (S : dk_S) : Option (Int32 × dk_S) := (fX9_in x1 0 99 S).bind (fun r1 => if r1.1 = 0 then some ((-1), r1.2) else if (r1.2.1 97 0) = 0 then some ((-4), r1.2) else dk_lt (r1.2.1 98 6) (fun y4 : Int32 => dk_lt (dk_si r1.2 98 6 x1) (fun S5 => some (y4, S5))))
set_option maxRecDepth 100000 in
set_option maxHeartbeats 4000000 in
theorem ct_X9_tilt (l : Launch) (g : dk_G) (x1 : Int32) (S : dk_S)  : dk_M l g yX9_tilt cX9_tilt 3 (some .int) 1 22 [.ref (g.1 82), .int x1] S (fX9_tilt x1 S) dk_qi := by
  refine dk_enter "DuckWalkModel" (by decide +kernel) rfl (Nat.le_of_ble_eq_true rfl) [(0, .ref (g.1 82)), (1, .int x1)] rfl ?_
  intro p e s m args below meth c C
  unfold fX9_tilt
  refine dj_iload_n C 1 rfl dX9_tilt_0 ?_
  refine dj_iconst C dX9_tilt_1 dc_iconst_0 ?_
  refine dj_bipush C dX9_tilt_2 dc_bipush_99 ?_
  refine dj_callSi (As := [.int x1, .int 0, .int 99]) C dw_X9_80 (ct_X9_in l g x1 0 99 S) ⟨Nat.le_of_ble_eq_true rfl, Nat.le_of_ble_eq_true rfl⟩ rfl (Nat.le_of_ble_eq_true rfl) rfl dX9_tilt_4 (fun r1 => ?_)
  refine dj_if_ne (tgt := 12) C dX9_tilt_7 (by decide) (fun c2 => ?_) (fun c2 => ?_)
  · refine dj_aload_n C 0 rfl dX9_tilt_12 ?_
    refine dj_getr (r := 15) (k2 := 97) C dl_X9_54 rfl dz_82 rfl dX9_tilt_13 ?_
    refine dj_iconst C dX9_tilt_16 dc_iconst_0 ?_
    refine dj_zaldn (n := 4) (j := 0) C dz_97 (by decide) (by decide) (by decide) dX9_tilt_17 ?_
    refine dj_if_ne (tgt := 24) C dX9_tilt_18 (by decide) (fun c3 => ?_) (fun c3 => ?_)
    · refine dj_aload_n C 0 rfl dX9_tilt_24 ?_
      refine dj_getr (r := 16) (k2 := 98) C dl_X9_57 rfl dz_82 rfl dX9_tilt_25 ?_
      refine dj_bipush C dX9_tilt_28 dc_bipush_6 ?_
      refine dj_ialdn (n := 456) (j := 6) C dz_98 (by decide) (by decide) (by decide) dX9_tilt_30 ?_
      refine dj_lti (fun y4 => ?_)
      refine dj_istore_n (lv2 := [(0, .ref (g.1 82)), (1, .int x1), (2, .int y4)]) C [1, 2, 0] dX9_tilt_31 rfl (by decide) rfl ?_
      refine dj_aload_n C 0 rfl dX9_tilt_32 ?_
      refine dj_getr (r := 16) (k2 := 98) C dl_X9_57 rfl dz_82 rfl dX9_tilt_33 ?_
      refine dj_bipush C dX9_tilt_36 dc_bipush_6 ?_
      refine dj_iload_n C 1 rfl dX9_tilt_38 ?_
      refine dj_iastn (n := 456) (j := 6) C dz_98 (by decide) (by decide) (by decide) dX9_tilt_39 (fun S5 => ?_)
      refine dj_iload_n C 2 rfl dX9_tilt_40 ?_
      exact dj_iret C dX9_tilt_41
    · refine dj_bipush C dX9_tilt_21 dc_bipush_m4 ?_
      exact dj_iret C dX9_tilt_23
  · refine dj_iconst C dX9_tilt_10 dc_iconst_m1 ?_
    exact dj_iret C dX9_tilt_11
noncomputable def fX9_keep (x1 : Int32) (S : dk_S) : Option (Int32 × dk_S) := (fX9_in x1 0 2 S).bind (fun r1 => if r1.1 = 0 then some ((-1), r1.2) else if (r1.2.1 97 0) = 0 then some ((-4), r1.2) else (fX9_copyWalk 0 (1 + x1) r1.2).bind (fun r4 => dk_gd (dk_in (1 + x1) 4) (dk_lt (dk_si r4 97 (1 + x1).toNatClampNeg (vp_nar .boolean 1)) (fun S5 => some (S5.1 98 9, S5)))))
set_option maxRecDepth 100000 in
set_option maxHeartbeats 4000000 in
theorem ct_X9_keep (l : Launch) (g : dk_G) (x1 : Int32) (S : dk_S)  : dk_M l g yX9_keep cX9_keep 2 (some .int) 1 23 [.ref (g.1 82), .int x1] S (fX9_keep x1 S) dk_qi := by
  refine dk_enter "DuckWalkModel" (by decide +kernel) rfl (Nat.le_of_ble_eq_true rfl) [(0, .ref (g.1 82)), (1, .int x1)] rfl ?_
  intro p e s m args below meth c C
  unfold fX9_keep
  refine dj_iload_n C 1 rfl dX9_keep_0 ?_
  refine dj_iconst C dX9_keep_1 dc_iconst_0 ?_
  refine dj_iconst C dX9_keep_2 dc_iconst_2 ?_
  refine dj_callSi (As := [.int x1, .int 0, .int 2]) C dw_X9_80 (ct_X9_in l g x1 0 2 S) ⟨Nat.le_of_ble_eq_true rfl, Nat.le_of_ble_eq_true rfl⟩ rfl (Nat.le_of_ble_eq_true rfl) rfl dX9_keep_3 (fun r1 => ?_)
  refine dj_if_ne (tgt := 11) C dX9_keep_6 (by decide) (fun c2 => ?_) (fun c2 => ?_)
  · refine dj_aload_n C 0 rfl dX9_keep_11 ?_
    refine dj_getr (r := 15) (k2 := 97) C dl_X9_54 rfl dz_82 rfl dX9_keep_12 ?_
    refine dj_iconst C dX9_keep_15 dc_iconst_0 ?_
    refine dj_zaldn (n := 4) (j := 0) C dz_97 (by decide) (by decide) (by decide) dX9_keep_16 ?_
    refine dj_if_ne (tgt := 23) C dX9_keep_17 (by decide) (fun c3 => ?_) (fun c3 => ?_)
    · refine dj_aload_n C 0 rfl dX9_keep_23 ?_
      refine dj_iconst C dX9_keep_24 dc_iconst_0 ?_
      refine dj_iconst C dX9_keep_25 dc_iconst_1 ?_
      refine dj_iload_n C 1 rfl dX9_keep_26 ?_
      refine dj_iadd C dX9_keep_27 ?_
      refine dj_callVv (t := 9) (As := [.int 0, .int (1 + x1)]) C dw_X9_200 ⟨_, _, rfl⟩ (by decide) dz_82 (ct_X9_copyWalk l g 0 (1 + x1) r1.2) ⟨Nat.le_of_ble_eq_true rfl, Nat.le_of_ble_eq_true rfl⟩ rfl (Nat.le_of_ble_eq_true rfl) rfl dX9_keep_28 (fun r4 => ?_)
      refine dj_aload_n C 0 rfl dX9_keep_31 ?_
      refine dj_getr (r := 15) (k2 := 97) C dl_X9_54 rfl dz_82 rfl dX9_keep_32 ?_
      refine dj_iconst C dX9_keep_35 dc_iconst_1 ?_
      refine dj_iload_n C 1 rfl dX9_keep_36 ?_
      refine dj_iadd C dX9_keep_37 ?_
      refine dj_iconst C dX9_keep_38 dc_iconst_1 ?_
      refine dj_zast (n := 4) C dz_97 (by decide) dX9_keep_39 (fun S5 => ?_)
      refine dj_aload_n C 0 rfl dX9_keep_40 ?_
      refine dj_getr (r := 16) (k2 := 98) C dl_X9_57 rfl dz_82 rfl dX9_keep_41 ?_
      refine dj_bipush C dX9_keep_44 dc_bipush_9 ?_
      refine dj_ialdn (n := 456) (j := 9) C dz_98 (by decide) (by decide) (by decide) dX9_keep_46 ?_
      exact dj_iret C dX9_keep_47
    · refine dj_bipush C dX9_keep_20 dc_bipush_m4 ?_
      exact dj_iret C dX9_keep_22
  · refine dj_iconst C dX9_keep_9 dc_iconst_m1 ?_
    exact dj_iret C dX9_keep_10
noncomputable def fX9_on (x1 : Int32) (S : dk_S) : Option (Int32 × dk_S) := (fX9_in x1 0 2 S).bind (fun r1 => if r1.1 = 0 then some ((-1), r1.2) else dk_gd (dk_in (1 + x1) 4) (if (r1.2.1 97 (1 + x1).toNatClampNeg) = 0 then (fX9_notes 1 r1.2).bind (fun r6 => some (r6.1, r6.2)) else (fX9_copyWalk (1 + x1) 0 r1.2).bind (fun r4 => dk_lt (dk_si r4 97 0 (vp_nar .boolean 1)) (fun S5 => some (S5.1 98 9, S5)))))
set_option maxRecDepth 100000 in
set_option maxHeartbeats 4000000 in
theorem ct_X9_on (l : Launch) (g : dk_G) (x1 : Int32) (S : dk_S)  : dk_M l g yX9_on cX9_on 2 (some .int) 1 23 [.ref (g.1 82), .int x1] S (fX9_on x1 S) dk_qi := by
  refine dk_enter "DuckWalkModel" (by decide +kernel) rfl (Nat.le_of_ble_eq_true rfl) [(0, .ref (g.1 82)), (1, .int x1)] rfl ?_
  intro p e s m args below meth c C
  unfold fX9_on
  refine dj_iload_n C 1 rfl dX9_on_0 ?_
  refine dj_iconst C dX9_on_1 dc_iconst_0 ?_
  refine dj_iconst C dX9_on_2 dc_iconst_2 ?_
  refine dj_callSi (As := [.int x1, .int 0, .int 2]) C dw_X9_80 (ct_X9_in l g x1 0 2 S) ⟨Nat.le_of_ble_eq_true rfl, Nat.le_of_ble_eq_true rfl⟩ rfl (Nat.le_of_ble_eq_true rfl) rfl dX9_on_3 (fun r1 => ?_)
  refine dj_if_ne (tgt := 11) C dX9_on_6 (by decide) (fun c2 => ?_) (fun c2 => ?_)
  · refine dj_aload_n C 0 rfl dX9_on_11 ?_
    refine dj_getr (r := 15) (k2 := 97) C dl_X9_54 rfl dz_82 rfl dX9_on_12 ?_
    refine dj_iconst C dX9_on_15 dc_iconst_1 ?_
    refine dj_iload_n C 1 rfl dX9_on_16 ?_
    refine dj_iadd C dX9_on_17 ?_
    refine dj_zald (n := 4) C dz_97 (by decide) dX9_on_18 ?_
    refine dj_if_ne (tgt := 28) C dX9_on_19 (by decide) (fun c3 => ?_) (fun c3 => ?_)
    · refine dj_aload_n C 0 rfl dX9_on_28 ?_
      refine dj_iconst C dX9_on_29 dc_iconst_1 ?_
      refine dj_iload_n C 1 rfl dX9_on_30 ?_
      refine dj_iadd C dX9_on_31 ?_
      refine dj_iconst C dX9_on_32 dc_iconst_0 ?_
      refine dj_callVv (t := 9) (As := [.int (1 + x1), .int 0]) C dw_X9_200 ⟨_, _, rfl⟩ (by decide) dz_82 (ct_X9_copyWalk l g (1 + x1) 0 r1.2) ⟨Nat.le_of_ble_eq_true rfl, Nat.le_of_ble_eq_true rfl⟩ rfl (Nat.le_of_ble_eq_true rfl) rfl dX9_on_33 (fun r4 => ?_)
      refine dj_aload_n C 0 rfl dX9_on_36 ?_
      refine dj_getr (r := 15) (k2 := 97) C dl_X9_54 rfl dz_82 rfl dX9_on_37 ?_
      refine dj_iconst C dX9_on_40 dc_iconst_0 ?_
      refine dj_iconst C dX9_on_41 dc_iconst_1 ?_
      refine dj_zastn (n := 4) (j := 0) C dz_97 (by decide) (by decide) (by decide) dX9_on_42 (fun S5 => ?_)
      refine dj_aload_n C 0 rfl dX9_on_43 ?_
      refine dj_getr (r := 16) (k2 := 98) C dl_X9_57 rfl dz_82 rfl dX9_on_44 ?_
      refine dj_bipush C dX9_on_47 dc_bipush_9 ?_
      refine dj_ialdn (n := 456) (j := 9) C dz_98 (by decide) (by decide) (by decide) dX9_on_49 ?_
      exact dj_iret C dX9_on_50
    · refine dj_aload_n C 0 rfl dX9_on_22 ?_
      refine dj_iconst C dX9_on_23 dc_iconst_1 ?_
      refine dj_callVi (t := 9) (As := [.int 1]) C dw_X9_94 ⟨_, _, rfl⟩ (by decide) dz_82 (ct_X9_notes l g 1 r1.2) ⟨Nat.le_of_ble_eq_true rfl, Nat.le_of_ble_eq_true rfl⟩ rfl (Nat.le_of_ble_eq_true rfl) rfl dX9_on_24 (fun r6 => ?_)
      exact dj_iret C dX9_on_27
  · refine dj_iconst C dX9_on_9 dc_iconst_m1 ?_
    exact dj_iret C dX9_on_10
noncomputable def fX9_turns_L49 (x1 : Int32) (x2 : Int32) (kx65 : (Int32 × dk_S) → Option (Int32 × dk_S)) : Nat → Int32 → dk_S → Option (Int32 × dk_S)
  | 0, _, _ => none
  | n + 1, x3, S => if ((x3 * x1) - (x3 * x1) / 360 * 360) = 0 then kx65 (x3, S) else fX9_turns_L49 x1 x2 kx65 n (x3 + 1) S
noncomputable def fX9_turns  (S : dk_S) : Option (Int32 × dk_S) := if (S.1 97 0) = 0 then some ((-4), S) else dk_lt ((S.1 98 5) - (S.1 98 4)) (fun y2 : Int32 => dk_lt (((S.1 98 9) * y2) - ((S.1 98 9) * y2) / 360 * 360) (fun y3 : Int32 => dk_lt (fun t4 : Int32 × dk_S => (if 0 ≤ y3 then (fX9_tells t4.1 y3 t4.2).bind (fun r7 => some (r7.1, r7.2)) else (fX9_tells t4.1 (y3 + 360) t4.2).bind (fun r8 => some (r8.1, r8.2)) : Option (Int32 × dk_S))) (fun k5 => if y2 = 0 then k5 ((-9), S) else fX9_turns_L49 y2 y3 (fun t10 : Int32 × dk_S => k5 (t10.1, t10.2)) dk_FU 1 S)))
set_option maxRecDepth 100000 in
set_option maxHeartbeats 4000000 in
theorem jX9_turns_L49 {p : Program} {l : Launch} {e : Env} {R : Room} {s : State} {m : MethodId} {args : Array Value} {below : List Frame} {meth : Method} {c : Code} {g : dk_G} (C : dk_C p l e R s m args below meth c g cX9_turns "DuckWalkModel" 4 (some .int)) (hR : R = { frames := 1, cells := 0, slots := 0, locals := 22 }) (x1 : Int32) (x2 : Int32) (kx65 : (Int32 × dk_S) → Option (Int32 × dk_S))  (hkx65 : ∀ t : Int32 × dk_S, dk_J p l e R s m args below meth c g 4 dk_qi 65 [(0, .ref (g.1 82)), (2, .int x2), (3, .int t.1)] [] t.2 (kx65 t) some) : ∀ (n : Nat) (x3 : Int32) (S : dk_S), dk_J p l e R s m args below meth c g 4 dk_qi 49 [(0, .ref (g.1 82)), (1, .int x1), (2, .int x2), (3, .int x3)] [] S (fX9_turns_L49 x1 x2 kx65 n x3 S) some := by
  subst hR
  intro n
  induction n with
  | zero =>
    intro x3 S
    exact dj_none
  | succ n ih =>
    intro x3 S
    rw [fX9_turns_L49]
    refine dj_iload_n C 3 rfl dX9_turns_49 ?_
    refine dj_iload_n C 1 rfl dX9_turns_50 ?_
    refine dj_imul C dX9_turns_51 ?_
    refine dj_sipush C dX9_turns_52 dc_sipush_360 ?_
    refine dj_irem C dX9_turns_55 (by decide) ?_
    refine dj_if_eq (tgt := 65) C dX9_turns_56 (by decide) (fun c11 => ?_) (fun c11 => ?_)
    · refine dj_sub (lv2 := [(0, .ref (g.1 82)), (2, .int x2), (3, .int x3)]) [0, 2, 3] rfl ?_
      exact hkx65 (x3, S)
    · refine dj_iinc (lv2 := [(0, .ref (g.1 82)), (1, .int x1), (2, .int x2), (3, .int (x3 + 1))]) C 3 rfl [1, 2, 3, 0] dX9_turns_59 dc_iconst_1 (by decide) rfl ?_
      refine dj_goto (tgt := 49) C dX9_turns_62 (by decide) ?_
      exact ih (x3 + 1) S
set_option maxRecDepth 100000 in
set_option maxHeartbeats 4000000 in
theorem ct_X9_turns (l : Launch) (g : dk_G)  (S : dk_S)  : dk_M l g yX9_turns cX9_turns 4 (some .int) 1 22 [.ref (g.1 82)] S (fX9_turns  S) dk_qi := by
  refine dk_enter "DuckWalkModel" (by decide +kernel) rfl (Nat.le_of_ble_eq_true rfl) [(0, .ref (g.1 82))] rfl ?_
  intro p e s m args below meth c C
  unfold fX9_turns
  refine dj_aload_n C 0 rfl dX9_turns_0 ?_
  refine dj_getr (r := 15) (k2 := 97) C dl_X9_54 rfl dz_82 rfl dX9_turns_1 ?_
  refine dj_iconst C dX9_turns_4 dc_iconst_0 ?_
  refine dj_zaldn (n := 4) (j := 0) C dz_97 (by decide) (by decide) (by decide) dX9_turns_5 ?_
  refine dj_if_ne (tgt := 12) C dX9_turns_6 (by decide) (fun c1 => ?_) (fun c1 => ?_)
  · refine dj_aload_n C 0 rfl dX9_turns_12 ?_
    refine dj_getr (r := 16) (k2 := 98) C dl_X9_57 rfl dz_82 rfl dX9_turns_13 ?_
    refine dj_iconst C dX9_turns_16 dc_iconst_5 ?_
    refine dj_ialdn (n := 456) (j := 5) C dz_98 (by decide) (by decide) (by decide) dX9_turns_17 ?_
    refine dj_aload_n C 0 rfl dX9_turns_18 ?_
    refine dj_getr (r := 16) (k2 := 98) C dl_X9_57 rfl dz_82 rfl dX9_turns_19 ?_
    refine dj_iconst C dX9_turns_22 dc_iconst_4 ?_
    refine dj_ialdn (n := 456) (j := 4) C dz_98 (by decide) (by decide) (by decide) dX9_turns_23 ?_
    refine dj_isub C dX9_turns_24 ?_
    refine dj_lti (fun y2 => ?_)
    refine dj_istore_n (lv2 := [(0, .ref (g.1 82)), (1, .int y2)]) C [1, 0] dX9_turns_25 rfl (by decide) rfl ?_
    refine dj_aload_n C 0 rfl dX9_turns_26 ?_
    refine dj_getr (r := 16) (k2 := 98) C dl_X9_57 rfl dz_82 rfl dX9_turns_27 ?_
    refine dj_bipush C dX9_turns_30 dc_bipush_9 ?_
    refine dj_ialdn (n := 456) (j := 9) C dz_98 (by decide) (by decide) (by decide) dX9_turns_32 ?_
    refine dj_iload_n C 1 rfl dX9_turns_33 ?_
    refine dj_imul C dX9_turns_34 ?_
    refine dj_sipush C dX9_turns_35 dc_sipush_360 ?_
    refine dj_irem C dX9_turns_38 (by decide) ?_
    refine dj_lti (fun y3 => ?_)
    refine dj_istore_n (lv2 := [(0, .ref (g.1 82)), (1, .int y2), (2, .int y3)]) C [1, 2, 0] dX9_turns_39 rfl (by decide) rfl ?_
    refine dj_bipush C dX9_turns_40 dc_bipush_m9 ?_
    refine dj_istore_n (lv2 := [(0, .ref (g.1 82)), (1, .int y2), (2, .int y3), (3, .int (-9))]) C [1, 2, 3, 0] dX9_turns_42 rfl (by decide) rfl ?_
    refine dj_iload_n C 1 rfl dX9_turns_43 ?_
    refine dj_join 65 (fun t4 : Int32 × dk_S => [(0, .ref (g.1 82)), (2, .int y3), (3, .int t4.1)]) (fun t4 : Int32 × dk_S => []) (fun t4 : Int32 × dk_S => t4.2) (fun t4 => ?_) (fun k5 hk5 => ?_)
    · refine dj_aload_n C 0 rfl dX9_turns_65 ?_
      refine dj_iload_n C 2 rfl dX9_turns_66 ?_
      refine dj_iload_n C 1 rfl dX9_turns_67 ?_
      refine dj_if_ge (tgt := 79) C dX9_turns_68 (by decide) (fun c6 => ?_) (fun c6 => ?_)
      · refine dj_iload_n C 1 rfl dX9_turns_79 ?_
        refine dj_callVi (t := 9) (As := [.int t4.1, .int y3]) C dw_X9_102 ⟨_, _, rfl⟩ (by decide) dz_82 (ct_X9_tells l g t4.1 y3 t4.2) ⟨Nat.le_of_ble_eq_true rfl, Nat.le_of_ble_eq_true rfl⟩ rfl (Nat.le_of_ble_eq_true rfl) rfl dX9_turns_80 (fun r7 => ?_)
        exact dj_iret C dX9_turns_83
      · refine dj_iload_n C 1 rfl dX9_turns_71 ?_
        refine dj_sipush C dX9_turns_72 dc_sipush_360 ?_
        refine dj_iadd C dX9_turns_75 ?_
        refine dj_goto (tgt := 80) C dX9_turns_76 (by decide) ?_
        refine dj_callVi (t := 9) (As := [.int t4.1, .int (y3 + 360)]) C dw_X9_102 ⟨_, _, rfl⟩ (by decide) dz_82 (ct_X9_tells l g t4.1 (y3 + 360) t4.2) ⟨Nat.le_of_ble_eq_true rfl, Nat.le_of_ble_eq_true rfl⟩ rfl (Nat.le_of_ble_eq_true rfl) rfl dX9_turns_80 (fun r8 => ?_)
        exact dj_iret C dX9_turns_83
    · refine dj_if_eq (tgt := 65) C dX9_turns_44 (by decide) (fun c9 => ?_) (fun c9 => ?_)
      · refine dj_sub (lv2 := [(0, .ref (g.1 82)), (2, .int y3), (3, .int (-9))]) [0, 2, 3] rfl ?_
        exact hk5 ((-9), S)
      · refine dj_iconst C dX9_turns_47 dc_iconst_1 ?_
        refine dj_istore_n (lv2 := [(0, .ref (g.1 82)), (1, .int y2), (2, .int y3), (3, .int 1)]) C [1, 2, 3, 0] dX9_turns_48 rfl (by decide) rfl ?_
        refine jX9_turns_L49 C rfl y2 y3 _ (fun t10 => ?_) dk_FU 1 S
        · exact hk5 (t10.1, t10.2)
  · refine dj_bipush C dX9_turns_9 dc_bipush_m4 ?_
    exact dj_iret C dX9_turns_11
noncomputable def fX9_goingOf_L210 (x2 : Int32) (kx255 : dk_S → Option (Int32 × dk_S)) : Nat → Int32 → dk_S → Option (Int32 × dk_S)
  | 0, _, _ => none
  | n + 1, x3, S => if x2 ≤ x3 then kx255 S else dk_gd (dk_in x3 401) ((fX9_lesser (S.1 82 36) (S.1 100 x3.toNatClampNeg) S).bind (fun r20 => dk_lt (dk_si r20.2 82 36 r20.1) (fun S21 => dk_gd (dk_in x3 401) ((fX9_greater (S21.1 82 37) (S21.1 100 x3.toNatClampNeg) S21).bind (fun r22 => dk_lt (dk_si r22.2 82 37 r22.1) (fun S23 => fX9_goingOf_L210 x2 kx255 n (x3 + 1) S23))))))
noncomputable def fX9_goingOf_L43 (kx116 : (Int32 × dk_S) → Option (Int32 × dk_S)) : Nat → Int32 → dk_S → Option (Int32 × dk_S)
  | 0, _, _ => none
  | n + 1, x2, S => if (S.1 82 27) = 0 then dk_gd (dk_in ((2 * (S.1 82 25)) + (S.1 82 26)) 400) (if (S.1 99 ((2 * (S.1 82 25)) + (S.1 82 26)).toNatClampNeg) = (-9) then if 400 ≤ x2 then kx116 (x2, S) else dk_gd (dk_in ((2 * (S.1 82 25)) + (S.1 82 26)) 400) (dk_lt (dk_si S 99 ((2 * (S.1 82 25)) + (S.1 82 26)).toNatClampNeg x2) (fun S28 => (fX9_steps x2 S28).bind (fun r29 => dk_gd (dk_in (x2 + 1) 401) (dk_lt (dk_si r29 100 (x2 + 1).toNatClampNeg (r29.1 82 25)) (fun S30 => fX9_goingOf_L43 kx116 n (x2 + 1) S30))))) else kx116 (x2, S)) else kx116 (x2, S)
noncomputable def fX9_goingOf_L2 (x1 : Int32) (kx23 : dk_S → Option (Int32 × dk_S)) : Nat → Int32 → dk_S → Option (Int32 × dk_S)
  | 0, _, _ => none
  | n + 1, x2, S => if 400 ≤ x2 then kx23 S else dk_gd (dk_in x2 400) (dk_lt (dk_si S 99 x2.toNatClampNeg (-9)) (fun S32 => fX9_goingOf_L2 x1 kx23 n (x2 + 1) S32))
noncomputable def fX9_goingOf (x1 : Int32) (S : dk_S) : Option (Int32 × dk_S) := fX9_goingOf_L2 x1 (fun t1 : dk_S => (fX9_starts x1 0 t1).bind (fun r2 => dk_lt (dk_si r2 100 0 x1) (fun S3 => dk_lt (dk_si S3 82 35 0) (fun S4 => fX9_goingOf_L43 (fun t5 : Int32 × dk_S => dk_lt (dk_si t5.2 82 34 t5.1) (fun S6 => if (S6.1 82 27) = 0 then dk_gd (dk_in ((2 * (S6.1 82 25)) + (S6.1 82 26)) 400) (if (S6.1 99 ((2 * (S6.1 82 25)) + (S6.1 82 26)).toNatClampNeg) = (-9) then some (3, S6) else dk_gd (dk_in ((2 * (S6.1 82 25)) + (S6.1 82 26)) 400) (dk_lt (dk_si S6 82 35 (t5.1 - (S6.1 99 ((2 * (S6.1 82 25)) + (S6.1 82 26)).toNatClampNeg))) (fun S9 => dk_lt (dk_si S9 82 36 (S9.1 82 25)) (fun S10 => dk_lt (dk_si S10 82 37 (S10.1 82 25)) (fun S11 => dk_lt (t5.1 - (S11.1 82 35)) (fun y12 : Int32 => fX9_goingOf_L210 t5.1 (fun t13 : dk_S => if (t13.1 82 36) = (t13.1 82 37) then (fX9_fallsAt t13).bind (fun r17 => if (t13.1 82 36) ≤ (r17.1 / 2) then some (1, r17.2) else some (6, r17.2)) else if (t13.1 82 35) = 4 then some (7, t13) else if 4 ≤ (t13.1 82 35) then some (3, t13) else some (2, t13)) dk_FU y12 S11)))))) else if (S6.1 82 27) = 1 then some (4, S6) else some (5, S6))) dk_FU 0 S4)))) dk_FU 0 S
set_option maxRecDepth 100000 in
set_option maxHeartbeats 4000000 in
theorem jX9_goingOf_L210 {p : Program} {l : Launch} {e : Env} {R : Room} {s : State} {m : MethodId} {args : Array Value} {below : List Frame} {meth : Method} {c : Code} {g : dk_G} (C : dk_C p l e R s m args below meth c g cX9_goingOf "DuckWalkModel" 4 (some .int)) (hR : R = { frames := 3, cells := 0, slots := 0, locals := 64 }) (x2 : Int32) (kx255 : dk_S → Option (Int32 × dk_S))  (hkx255 : ∀ t : dk_S, dk_J p l e R s m args below meth c g 4 dk_qi 255 [(0, .ref (g.1 82))] [] t (kx255 t) some) : ∀ (n : Nat) (x3 : Int32) (S : dk_S), dk_J p l e R s m args below meth c g 4 dk_qi 210 [(0, .ref (g.1 82)), (2, .int x2), (3, .int x3)] [] S (fX9_goingOf_L210 x2 kx255 n x3 S) some := by
  subst hR
  intro n
  induction n with
  | zero =>
    intro x3 S
    exact dj_none
  | succ n ih =>
    intro x3 S
    rw [fX9_goingOf_L210]
    refine dj_iload_n C 2 rfl dX9_goingOf_210 ?_
    refine dj_iload_n C 1 rfl dX9_goingOf_211 ?_
    refine dj_icmp_ge (tgt := 255) C dX9_goingOf_212 (by decide) (fun c19 => ?_) (fun c19 => ?_)
    · refine dj_sub (lv2 := [(0, .ref (g.1 82))]) [0] rfl ?_
      exact hkx255 S
    · refine dj_aload_n C 0 rfl dX9_goingOf_215 ?_
      refine dj_aload_n C 0 rfl dX9_goingOf_216 ?_
      refine dj_geti C dl_X9_212 rfl dz_82 dX9_goingOf_217 ?_
      refine dj_aload_n C 0 rfl dX9_goingOf_220 ?_
      refine dj_getr (r := 18) (k2 := 100) C dl_X9_63 rfl dz_82 rfl dX9_goingOf_221 ?_
      refine dj_iload_n C 2 rfl dX9_goingOf_224 ?_
      refine dj_iald (n := 401) C dz_100 (by decide) dX9_goingOf_225 ?_
      refine dj_callSi (As := [.int (S.1 82 36), .int (S.1 100 x3.toNatClampNeg)]) C dw_X9_218 (ct_X9_lesser l g (S.1 82 36) (S.1 100 x3.toNatClampNeg) S) ⟨Nat.le_of_ble_eq_true rfl, Nat.le_of_ble_eq_true rfl⟩ rfl (Nat.le_of_ble_eq_true rfl) rfl dX9_goingOf_226 (fun r20 => ?_)
      refine dj_puti C dl_X9_212 dp_9_36 rfl dz_82 dX9_goingOf_229 (fun S21 => ?_)
      refine dj_aload_n C 0 rfl dX9_goingOf_232 ?_
      refine dj_aload_n C 0 rfl dX9_goingOf_233 ?_
      refine dj_geti C dl_X9_215 rfl dz_82 dX9_goingOf_234 ?_
      refine dj_aload_n C 0 rfl dX9_goingOf_237 ?_
      refine dj_getr (r := 18) (k2 := 100) C dl_X9_63 rfl dz_82 rfl dX9_goingOf_238 ?_
      refine dj_iload_n C 2 rfl dX9_goingOf_241 ?_
      refine dj_iald (n := 401) C dz_100 (by decide) dX9_goingOf_242 ?_
      refine dj_callSi (As := [.int (S21.1 82 37), .int (S21.1 100 x3.toNatClampNeg)]) C dw_X9_221 (ct_X9_greater l g (S21.1 82 37) (S21.1 100 x3.toNatClampNeg) S21) ⟨Nat.le_of_ble_eq_true rfl, Nat.le_of_ble_eq_true rfl⟩ rfl (Nat.le_of_ble_eq_true rfl) rfl dX9_goingOf_243 (fun r22 => ?_)
      refine dj_puti C dl_X9_215 dp_9_37 rfl dz_82 dX9_goingOf_246 (fun S23 => ?_)
      refine dj_iinc (lv2 := [(0, .ref (g.1 82)), (2, .int x2), (3, .int (x3 + 1))]) C 2 rfl [1, 2, 0] dX9_goingOf_249 dc_iconst_1 (by decide) rfl ?_
      refine dj_goto (tgt := 210) C dX9_goingOf_252 (by decide) ?_
      exact ih (x3 + 1) S23
set_option maxRecDepth 100000 in
set_option maxHeartbeats 4000000 in
theorem jX9_goingOf_L43 {p : Program} {l : Launch} {e : Env} {R : Room} {s : State} {m : MethodId} {args : Array Value} {below : List Frame} {meth : Method} {c : Code} {g : dk_G} (C : dk_C p l e R s m args below meth c g cX9_goingOf "DuckWalkModel" 4 (some .int)) (hR : R = { frames := 3, cells := 0, slots := 0, locals := 64 }) (kx116 : (Int32 × dk_S) → Option (Int32 × dk_S))  (hkx116 : ∀ t : Int32 × dk_S, dk_J p l e R s m args below meth c g 4 dk_qi 116 [(0, .ref (g.1 82)), (2, .int t.1)] [] t.2 (kx116 t) some) : ∀ (n : Nat) (x2 : Int32) (S : dk_S), dk_J p l e R s m args below meth c g 4 dk_qi 43 [(0, .ref (g.1 82)), (2, .int x2)] [] S (fX9_goingOf_L43 kx116 n x2 S) some := by
  subst hR
  intro n
  induction n with
  | zero =>
    intro x2 S
    exact dj_none
  | succ n ih =>
    intro x2 S
    rw [fX9_goingOf_L43]
    refine dj_aload_n C 0 rfl dX9_goingOf_43 ?_
    refine dj_geti C dl_X9_160 rfl dz_82 dX9_goingOf_44 ?_
    refine dj_if_ne (tgt := 116) C dX9_goingOf_47 (by decide) (fun c25 => ?_) (fun c25 => ?_)
    · exact hkx116 (x2, S)
    · refine dj_aload_n C 0 rfl dX9_goingOf_50 ?_
      refine dj_getr (r := 17) (k2 := 99) C dl_X9_60 rfl dz_82 rfl dX9_goingOf_51 ?_
      refine dj_iconst C dX9_goingOf_54 dc_iconst_2 ?_
      refine dj_aload_n C 0 rfl dX9_goingOf_55 ?_
      refine dj_geti C dl_X9_154 rfl dz_82 dX9_goingOf_56 ?_
      refine dj_imul C dX9_goingOf_59 ?_
      refine dj_aload_n C 0 rfl dX9_goingOf_60 ?_
      refine dj_geti C dl_X9_157 rfl dz_82 dX9_goingOf_61 ?_
      refine dj_iadd C dX9_goingOf_64 ?_
      refine dj_iald (n := 400) C dz_99 (by decide) dX9_goingOf_65 ?_
      refine dj_bipush C dX9_goingOf_66 dc_bipush_m9 ?_
      refine dj_icmp_ne (tgt := 116) C dX9_goingOf_68 (by decide) (fun c26 => ?_) (fun c26 => ?_)
      · exact hkx116 (x2, S)
      · refine dj_iload_n C 1 rfl dX9_goingOf_71 ?_
        refine dj_sipush C dX9_goingOf_72 dc_sipush_400 ?_
        refine dj_icmp_ge (tgt := 116) C dX9_goingOf_75 (by decide) (fun c27 => ?_) (fun c27 => ?_)
        · exact hkx116 (x2, S)
        · refine dj_aload_n C 0 rfl dX9_goingOf_78 ?_
          refine dj_getr (r := 17) (k2 := 99) C dl_X9_60 rfl dz_82 rfl dX9_goingOf_79 ?_
          refine dj_iconst C dX9_goingOf_82 dc_iconst_2 ?_
          refine dj_aload_n C 0 rfl dX9_goingOf_83 ?_
          refine dj_geti C dl_X9_154 rfl dz_82 dX9_goingOf_84 ?_
          refine dj_imul C dX9_goingOf_87 ?_
          refine dj_aload_n C 0 rfl dX9_goingOf_88 ?_
          refine dj_geti C dl_X9_157 rfl dz_82 dX9_goingOf_89 ?_
          refine dj_iadd C dX9_goingOf_92 ?_
          refine dj_iload_n C 1 rfl dX9_goingOf_93 ?_
          refine dj_iast (n := 400) C dz_99 (by decide) dX9_goingOf_94 (fun S28 => ?_)
          refine dj_aload_n C 0 rfl dX9_goingOf_95 ?_
          refine dj_iload_n C 1 rfl dX9_goingOf_96 ?_
          refine dj_callVv (t := 9) (As := [.int x2]) C dw_X9_206 ⟨_, _, rfl⟩ (by decide) dz_82 (ct_X9_steps l g x2 S28) ⟨Nat.le_of_ble_eq_true rfl, Nat.le_of_ble_eq_true rfl⟩ rfl (Nat.le_of_ble_eq_true rfl) rfl dX9_goingOf_97 (fun r29 => ?_)
          refine dj_iinc (lv2 := [(0, .ref (g.1 82)), (2, .int (x2 + 1))]) C 1 rfl [1, 0] dX9_goingOf_100 dc_iconst_1 (by decide) rfl ?_
          refine dj_aload_n C 0 rfl dX9_goingOf_103 ?_
          refine dj_getr (r := 18) (k2 := 100) C dl_X9_63 rfl dz_82 rfl dX9_goingOf_104 ?_
          refine dj_iload_n C 1 rfl dX9_goingOf_107 ?_
          refine dj_aload_n C 0 rfl dX9_goingOf_108 ?_
          refine dj_geti C dl_X9_154 rfl dz_82 dX9_goingOf_109 ?_
          refine dj_iast (n := 401) C dz_100 (by decide) dX9_goingOf_112 (fun S30 => ?_)
          refine dj_goto (tgt := 43) C dX9_goingOf_113 (by decide) ?_
          exact ih (x2 + 1) S30
set_option maxRecDepth 100000 in
set_option maxHeartbeats 4000000 in
theorem jX9_goingOf_L2 {p : Program} {l : Launch} {e : Env} {R : Room} {s : State} {m : MethodId} {args : Array Value} {below : List Frame} {meth : Method} {c : Code} {g : dk_G} (C : dk_C p l e R s m args below meth c g cX9_goingOf "DuckWalkModel" 4 (some .int)) (hR : R = { frames := 3, cells := 0, slots := 0, locals := 64 }) (x1 : Int32) (kx23 : dk_S → Option (Int32 × dk_S))  (hkx23 : ∀ t : dk_S, dk_J p l e R s m args below meth c g 4 dk_qi 23 [(0, .ref (g.1 82)), (1, .int x1)] [] t (kx23 t) some) : ∀ (n : Nat) (x2 : Int32) (S : dk_S), dk_J p l e R s m args below meth c g 4 dk_qi 2 [(0, .ref (g.1 82)), (1, .int x1), (2, .int x2)] [] S (fX9_goingOf_L2 x1 kx23 n x2 S) some := by
  subst hR
  intro n
  induction n with
  | zero =>
    intro x2 S
    exact dj_none
  | succ n ih =>
    intro x2 S
    rw [fX9_goingOf_L2]
    refine dj_iload_n C 2 rfl dX9_goingOf_2 ?_
    refine dj_sipush C dX9_goingOf_3 dc_sipush_400 ?_
    refine dj_icmp_ge (tgt := 23) C dX9_goingOf_6 (by decide) (fun c31 => ?_) (fun c31 => ?_)
    · refine dj_sub (lv2 := [(0, .ref (g.1 82)), (1, .int x1)]) [0, 1] rfl ?_
      exact hkx23 S
    · refine dj_aload_n C 0 rfl dX9_goingOf_9 ?_
      refine dj_getr (r := 17) (k2 := 99) C dl_X9_60 rfl dz_82 rfl dX9_goingOf_10 ?_
      refine dj_iload_n C 2 rfl dX9_goingOf_13 ?_
      refine dj_bipush C dX9_goingOf_14 dc_bipush_m9 ?_
      refine dj_iast (n := 400) C dz_99 (by decide) dX9_goingOf_16 (fun S32 => ?_)
      refine dj_iinc (lv2 := [(0, .ref (g.1 82)), (1, .int x1), (2, .int (x2 + 1))]) C 2 rfl [1, 2, 0] dX9_goingOf_17 dc_iconst_1 (by decide) rfl ?_
      refine dj_goto (tgt := 2) C dX9_goingOf_20 (by decide) ?_
      exact ih (x2 + 1) S32
set_option maxRecDepth 100000 in
set_option maxHeartbeats 4000000 in
theorem ct_X9_goingOf (l : Launch) (g : dk_G) (x1 : Int32) (S : dk_S)  : dk_M l g yX9_goingOf cX9_goingOf 4 (some .int) 3 64 [.ref (g.1 82), .int x1] S (fX9_goingOf x1 S) dk_qi := by
  refine dk_enter "DuckWalkModel" (by decide +kernel) rfl (Nat.le_of_ble_eq_true rfl) [(0, .ref (g.1 82)), (1, .int x1)] rfl ?_
  intro p e s m args below meth c C
  unfold fX9_goingOf
  refine dj_iconst C dX9_goingOf_0 dc_iconst_0 ?_
  refine dj_istore_n (lv2 := [(0, .ref (g.1 82)), (1, .int x1), (2, .int 0)]) C [1, 2, 0] dX9_goingOf_1 rfl (by decide) rfl ?_
  refine jX9_goingOf_L2 C rfl x1 _ (fun t1 => ?_) dk_FU 0 S
  · refine dj_aload_n C 0 rfl dX9_goingOf_23 ?_
    refine dj_iload_n C 1 rfl dX9_goingOf_24 ?_
    refine dj_iconst C dX9_goingOf_25 dc_iconst_0 ?_
    refine dj_callVv (t := 9) (As := [.int x1, .int 0]) C dw_X9_183 ⟨_, _, rfl⟩ (by decide) dz_82 (ct_X9_starts l g x1 0 t1) ⟨Nat.le_of_ble_eq_true rfl, Nat.le_of_ble_eq_true rfl⟩ rfl (Nat.le_of_ble_eq_true rfl) rfl dX9_goingOf_26 (fun r2 => ?_)
    refine dj_aload_n C 0 rfl dX9_goingOf_29 ?_
    refine dj_getr (r := 18) (k2 := 100) C dl_X9_63 rfl dz_82 rfl dX9_goingOf_30 ?_
    refine dj_iconst C dX9_goingOf_33 dc_iconst_0 ?_
    refine dj_iload_n C 1 rfl dX9_goingOf_34 ?_
    refine dj_iastn (n := 401) (j := 0) C dz_100 (by decide) (by decide) (by decide) dX9_goingOf_35 (fun S3 => ?_)
    refine dj_iconst C dX9_goingOf_36 dc_iconst_0 ?_
    refine dj_istore_n (lv2 := [(0, .ref (g.1 82)), (2, .int 0)]) C [1, 0] dX9_goingOf_37 rfl (by decide) rfl ?_
    refine dj_aload_n C 0 rfl dX9_goingOf_38 ?_
    refine dj_iconst C dX9_goingOf_39 dc_iconst_0 ?_
    refine dj_puti C dl_X9_203 dp_9_35 rfl dz_82 dX9_goingOf_40 (fun S4 => ?_)
    refine jX9_goingOf_L43 C rfl _ (fun t5 => ?_) dk_FU 0 S4
    · refine dj_aload_n C 0 rfl dX9_goingOf_116 ?_
      refine dj_iload_n C 1 rfl dX9_goingOf_117 ?_
      refine dj_puti C dl_X9_209 dp_9_34 rfl dz_82 dX9_goingOf_118 (fun S6 => ?_)
      refine dj_aload_n C 0 rfl dX9_goingOf_121 ?_
      refine dj_geti C dl_X9_160 rfl dz_82 dX9_goingOf_122 ?_
      refine dj_if_eq (tgt := 142) C dX9_goingOf_125 (by decide) (fun c7 => ?_) (fun c7 => ?_)
      · refine dj_aload_n C 0 rfl dX9_goingOf_142 ?_
        refine dj_getr (r := 17) (k2 := 99) C dl_X9_60 rfl dz_82 rfl dX9_goingOf_143 ?_
        refine dj_iconst C dX9_goingOf_146 dc_iconst_2 ?_
        refine dj_aload_n C 0 rfl dX9_goingOf_147 ?_
        refine dj_geti C dl_X9_154 rfl dz_82 dX9_goingOf_148 ?_
        refine dj_imul C dX9_goingOf_151 ?_
        refine dj_aload_n C 0 rfl dX9_goingOf_152 ?_
        refine dj_geti C dl_X9_157 rfl dz_82 dX9_goingOf_153 ?_
        refine dj_iadd C dX9_goingOf_156 ?_
        refine dj_iald (n := 400) C dz_99 (by decide) dX9_goingOf_157 ?_
        refine dj_bipush C dX9_goingOf_158 dc_bipush_m9 ?_
        refine dj_icmp_ne (tgt := 165) C dX9_goingOf_160 (by decide) (fun c8 => ?_) (fun c8 => ?_)
        · refine dj_aload_n C 0 rfl dX9_goingOf_165 ?_
          refine dj_iload_n C 1 rfl dX9_goingOf_166 ?_
          refine dj_aload_n C 0 rfl dX9_goingOf_167 ?_
          refine dj_getr (r := 17) (k2 := 99) C dl_X9_60 rfl dz_82 rfl dX9_goingOf_168 ?_
          refine dj_iconst C dX9_goingOf_171 dc_iconst_2 ?_
          refine dj_aload_n C 0 rfl dX9_goingOf_172 ?_
          refine dj_geti C dl_X9_154 rfl dz_82 dX9_goingOf_173 ?_
          refine dj_imul C dX9_goingOf_176 ?_
          refine dj_aload_n C 0 rfl dX9_goingOf_177 ?_
          refine dj_geti C dl_X9_157 rfl dz_82 dX9_goingOf_178 ?_
          refine dj_iadd C dX9_goingOf_181 ?_
          refine dj_iald (n := 400) C dz_99 (by decide) dX9_goingOf_182 ?_
          refine dj_isub C dX9_goingOf_183 ?_
          refine dj_puti C dl_X9_203 dp_9_35 rfl dz_82 dX9_goingOf_184 (fun S9 => ?_)
          refine dj_aload_n C 0 rfl dX9_goingOf_187 ?_
          refine dj_aload_n C 0 rfl dX9_goingOf_188 ?_
          refine dj_geti C dl_X9_154 rfl dz_82 dX9_goingOf_189 ?_
          refine dj_puti C dl_X9_212 dp_9_36 rfl dz_82 dX9_goingOf_192 (fun S10 => ?_)
          refine dj_aload_n C 0 rfl dX9_goingOf_195 ?_
          refine dj_aload_n C 0 rfl dX9_goingOf_196 ?_
          refine dj_geti C dl_X9_154 rfl dz_82 dX9_goingOf_197 ?_
          refine dj_puti C dl_X9_215 dp_9_37 rfl dz_82 dX9_goingOf_200 (fun S11 => ?_)
          refine dj_iload_n C 1 rfl dX9_goingOf_203 ?_
          refine dj_aload_n C 0 rfl dX9_goingOf_204 ?_
          refine dj_geti C dl_X9_203 rfl dz_82 dX9_goingOf_205 ?_
          refine dj_isub C dX9_goingOf_208 ?_
          refine dj_lti (fun y12 => ?_)
          refine dj_istore_n (lv2 := [(0, .ref (g.1 82)), (2, .int t5.1), (3, .int y12)]) C [1, 2, 0] dX9_goingOf_209 rfl (by decide) rfl ?_
          refine jX9_goingOf_L210 C rfl t5.1 _ (fun t13 => ?_) dk_FU y12 S11
          · refine dj_aload_n C 0 rfl dX9_goingOf_255 ?_
            refine dj_geti C dl_X9_212 rfl dz_82 dX9_goingOf_256 ?_
            refine dj_aload_n C 0 rfl dX9_goingOf_259 ?_
            refine dj_geti C dl_X9_215 rfl dz_82 dX9_goingOf_260 ?_
            refine dj_icmp_ne (tgt := 286) C dX9_goingOf_263 (by decide) (fun c14 => ?_) (fun c14 => ?_)
            · refine dj_aload_n C 0 rfl dX9_goingOf_286 ?_
              refine dj_geti C dl_X9_203 rfl dz_82 dX9_goingOf_287 ?_
              refine dj_iconst C dX9_goingOf_290 dc_iconst_4 ?_
              refine dj_icmp_ne (tgt := 299) C dX9_goingOf_291 (by decide) (fun c15 => ?_) (fun c15 => ?_)
              · refine dj_aload_n C 0 rfl dX9_goingOf_299 ?_
                refine dj_geti C dl_X9_203 rfl dz_82 dX9_goingOf_300 ?_
                refine dj_iconst C dX9_goingOf_303 dc_iconst_4 ?_
                refine dj_icmp_ge (tgt := 311) C dX9_goingOf_304 (by decide) (fun c16 => ?_) (fun c16 => ?_)
                · refine dj_iconst C dX9_goingOf_311 dc_iconst_3 ?_
                  exact dj_iret C dX9_goingOf_312
                · refine dj_iconst C dX9_goingOf_307 dc_iconst_2 ?_
                  refine dj_goto (tgt := 312) C dX9_goingOf_308 (by decide) ?_
                  exact dj_iret C dX9_goingOf_312
              · refine dj_bipush C dX9_goingOf_294 dc_bipush_7 ?_
                refine dj_goto (tgt := 312) C dX9_goingOf_296 (by decide) ?_
                exact dj_iret C dX9_goingOf_312
            · refine dj_aload_n C 0 rfl dX9_goingOf_266 ?_
              refine dj_geti C dl_X9_212 rfl dz_82 dX9_goingOf_267 ?_
              refine dj_aload_n C 0 rfl dX9_goingOf_270 ?_
              refine dj_callVi (t := 9) (As := []) C dw_X9_173 ⟨_, _, rfl⟩ (by decide) dz_82 (ct_X9_fallsAt l g t13) ⟨Nat.le_of_ble_eq_true rfl, Nat.le_of_ble_eq_true rfl⟩ rfl (Nat.le_of_ble_eq_true rfl) rfl dX9_goingOf_271 (fun r17 => ?_)
              refine dj_iconst C dX9_goingOf_274 dc_iconst_2 ?_
              refine dj_idiv C dX9_goingOf_275 (by decide) ?_
              refine dj_icmp_le (tgt := 284) C dX9_goingOf_276 (by decide) (fun c18 => ?_) (fun c18 => ?_)
              · refine dj_iconst C dX9_goingOf_284 dc_iconst_1 ?_
                exact dj_iret C dX9_goingOf_285
              · refine dj_bipush C dX9_goingOf_279 dc_bipush_6 ?_
                refine dj_goto (tgt := 285) C dX9_goingOf_281 (by decide) ?_
                exact dj_iret C dX9_goingOf_285
        · refine dj_iconst C dX9_goingOf_163 dc_iconst_3 ?_
          exact dj_iret C dX9_goingOf_164
      · refine dj_aload_n C 0 rfl dX9_goingOf_128 ?_
        refine dj_geti C dl_X9_160 rfl dz_82 dX9_goingOf_129 ?_
        refine dj_iconst C dX9_goingOf_132 dc_iconst_1 ?_
        refine dj_icmp_ne (tgt := 140) C dX9_goingOf_133 (by decide) (fun c24 => ?_) (fun c24 => ?_)
        · refine dj_iconst C dX9_goingOf_140 dc_iconst_5 ?_
          exact dj_iret C dX9_goingOf_141
        · refine dj_iconst C dX9_goingOf_136 dc_iconst_4 ?_
          refine dj_goto (tgt := 141) C dX9_goingOf_137 (by decide) ?_
          exact dj_iret C dX9_goingOf_141
