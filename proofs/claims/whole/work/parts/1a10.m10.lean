noncomputable def fX9_counted_L114 (x1 : Int32) (kx148 : (Int32 × dk_S) → Option (Int32 × dk_S)) : Nat → Int32 → Int32 → dk_S → Option (Int32 × dk_S)
  | 0, _, _, _ => none
  | n + 1, x2, x3, S => if 6 ≤ x3 then kx148 (x2, S) else dk_lt (fun t6 : Int32 × dk_S => (dk_lt (x2 + t6.1) (fun y8 : Int32 => fX9_counted_L114 x1 kx148 n y8 (x3 + 1) t6.2) : Option (Int32 × dk_S))) (fun k7 => dk_lt (fun t9 : dk_S => (k7 (0, t9) : Option (Int32 × dk_S))) (fun k10 => if x1 = 5 then dk_gd (dk_in x3 6) (if (S.1 84 x3.toNatClampNeg) < 0 then k10 S else k7 (1, S)) else k10 S))
noncomputable def fX9_counted_L4 (x1 : Int32) (kx112 : (Int32 × dk_S) → Option (Int32 × dk_S)) : Nat → Int32 → Int32 → dk_S → Option (Int32 × dk_S)
  | 0, _, _, _ => none
  | n + 1, x2, x3, S => if 4 ≤ x3 then kx112 (x2, S) else dk_lt (fun t14 : dk_S => (dk_lt (x2 + 1) (fun y16 : Int32 => fX9_counted_L4 x1 kx112 n y16 (x3 + 1) t14) : Option (Int32 × dk_S))) (fun k15 => dk_lt (fun t17 : dk_S => (dk_lt (fun t19 : dk_S => (dk_lt (fun t21 : dk_S => (dk_lt (fun t23 : dk_S => (dk_lt (fun t25 : dk_S => (dk_lt (x2 + 0) (fun y27 : Int32 => fX9_counted_L4 x1 kx112 n y27 (x3 + 1) t25) : Option (Int32 × dk_S))) (fun k26 => if x1 = 6 then dk_gd (dk_in x3 4) (if (t23.1 87 x3.toNatClampNeg) < 0 then k26 t23 else k15 t23) else k26 t23) : Option (Int32 × dk_S))) (fun k24 => if x1 = 4 then if x3 ≤ 0 then k24 t21 else dk_gd (dk_in x3 4) (if (t21.1 97 x3.toNatClampNeg) = 0 then k24 t21 else k15 t21) else k24 t21) : Option (Int32 × dk_S))) (fun k22 => if x1 = 2 then dk_gd (dk_in x3 4) (if (t19.1 89 x3.toNatClampNeg) = 0 then k22 t19 else dk_gd (dk_in ((7 * x3) + 6) 28) (if 0 < (t19.1 90 ((7 * x3) + 6).toNatClampNeg) then k15 t19 else k22 t19)) else k22 t19) : Option (Int32 × dk_S))) (fun k20 => if x1 = 1 then dk_gd (dk_in x3 4) (if (t17.1 91 x3.toNatClampNeg) = 0 then k20 t17 else k15 t17) else k20 t17) : Option (Int32 × dk_S))) (fun k18 => if x1 = 0 then dk_gd (dk_in x3 4) (if (S.1 89 x3.toNatClampNeg) = 0 then k18 S else k15 S) else k18 S))
noncomputable def fX9_counted (x1 : Int32) (S : dk_S) : Option (Int32 × dk_S) := fX9_counted_L4 x1 (fun t1 : Int32 × dk_S => fX9_counted_L114 x1 (fun t2 : Int32 × dk_S => if x1 = 3 then if (t2.2.1 97 0) = 0 then some (0, t2.2) else some (t2.2.1 98 9, t2.2) else some (t2.1, t2.2)) dk_FU t1.1 0 t1.2) dk_FU 0 0 S
set_option maxRecDepth 100000 in
set_option maxHeartbeats 4000000 in
theorem jX9_counted_L114 {p : Program} {l : Launch} {e : Env} {R : Room} {s : State} {m : MethodId} {args : Array Value} {below : List Frame} {meth : Method} {c : Code} {g : dk_G} (C : dk_C p l e R s m args below meth c g cX9_counted "DuckWalkModel" 4 (some .int)) (hR : R = { frames := 0, cells := 0, slots := 0, locals := 0 }) (x1 : Int32) (kx148 : (Int32 × dk_S) → Option (Int32 × dk_S))  (hkx148 : ∀ t : Int32 × dk_S, dk_J p l e R s m args below meth c g 4 dk_qi 148 [(0, .ref (g.1 82)), (1, .int x1), (2, .int t.1)] [] t.2 (kx148 t) some) : ∀ (n : Nat) (x2 : Int32) (x3 : Int32) (S : dk_S), dk_J p l e R s m args below meth c g 4 dk_qi 114 [(0, .ref (g.1 82)), (1, .int x1), (2, .int x2), (3, .int x3)] [] S (fX9_counted_L114 x1 kx148 n x2 x3 S) some := by
  subst hR
  intro n
  induction n with
  | zero =>
    intro x2 x3 S
    exact dj_none
  | succ n ih =>
    intro x2 x3 S
    rw [fX9_counted_L114]
    refine dj_iload_n C 3 rfl dX9_counted_114 ?_
    refine dj_bipush C dX9_counted_115 dc_bipush_6 ?_
    refine dj_icmp_ge (tgt := 148) C dX9_counted_117 (by decide) (fun c5 => ?_) (fun c5 => ?_)
    · refine dj_sub (lv2 := [(0, .ref (g.1 82)), (1, .int x1), (2, .int x2)]) [0, 1, 2] rfl ?_
      exact hkx148 (x2, S)
    · refine dj_iload_n C 2 rfl dX9_counted_120 ?_
      refine dj_iload_n C 1 rfl dX9_counted_121 ?_
      refine dj_iconst C dX9_counted_122 dc_iconst_5 ?_
      refine dj_join 140 (fun t6 : Int32 × dk_S => [(0, .ref (g.1 82)), (1, .int x1), (3, .int x3)]) (fun t6 : Int32 × dk_S => [.int t6.1, .int x2]) (fun t6 : Int32 × dk_S => t6.2) (fun t6 => ?_) (fun k7 hk7 => ?_)
      · refine dj_iadd C dX9_counted_140 ?_
        refine dj_lti (fun y8 => ?_)
        refine dj_istore_n (lv2 := [(0, .ref (g.1 82)), (1, .int x1), (2, .int y8), (3, .int x3)]) C [1, 2, 0, 3] dX9_counted_141 rfl (by decide) rfl ?_
        refine dj_iinc (lv2 := [(0, .ref (g.1 82)), (1, .int x1), (2, .int y8), (3, .int (x3 + 1))]) C 3 rfl [1, 2, 3, 0] dX9_counted_142 dc_iconst_1 (by decide) rfl ?_
        refine dj_goto (tgt := 114) C dX9_counted_145 (by decide) ?_
        exact ih y8 (x3 + 1) t6.2
      · refine dj_join 139 (fun t9 : dk_S => [(0, .ref (g.1 82)), (1, .int x1), (3, .int x3)]) (fun t9 : dk_S => [.int x2]) (fun t9 : dk_S => t9) (fun t9 => ?_) (fun k10 hk10 => ?_)
        · refine dj_iconst C dX9_counted_139 dc_iconst_0 ?_
          exact hk7 (0, t9)
        · refine dj_icmp_ne (tgt := 139) C dX9_counted_123 (by decide) (fun c11 => ?_) (fun c11 => ?_)
          · refine dj_sub (lv2 := [(0, .ref (g.1 82)), (1, .int x1), (3, .int x3)]) [0, 1, 3] rfl ?_
            exact hk10 S
          · refine dj_aload_n C 0 rfl dX9_counted_126 ?_
            refine dj_getr (r := 2) (k2 := 84) C dl_X9_13 rfl dz_82 rfl dX9_counted_127 ?_
            refine dj_iload_n C 3 rfl dX9_counted_130 ?_
            refine dj_iald (n := 6) C dz_84 (by decide) dX9_counted_131 ?_
            refine dj_if_lt (tgt := 139) C dX9_counted_132 (by decide) (fun c12 => ?_) (fun c12 => ?_)
            · refine dj_sub (lv2 := [(0, .ref (g.1 82)), (1, .int x1), (3, .int x3)]) [0, 1, 3] rfl ?_
              exact hk10 S
            · refine dj_iconst C dX9_counted_135 dc_iconst_1 ?_
              refine dj_goto (tgt := 140) C dX9_counted_136 (by decide) ?_
              refine dj_sub (lv2 := [(0, .ref (g.1 82)), (1, .int x1), (3, .int x3)]) [0, 1, 3] rfl ?_
              exact hk7 (1, S)
set_option maxRecDepth 100000 in
set_option maxHeartbeats 4000000 in
theorem jX9_counted_L4 {p : Program} {l : Launch} {e : Env} {R : Room} {s : State} {m : MethodId} {args : Array Value} {below : List Frame} {meth : Method} {c : Code} {g : dk_G} (C : dk_C p l e R s m args below meth c g cX9_counted "DuckWalkModel" 4 (some .int)) (hR : R = { frames := 0, cells := 0, slots := 0, locals := 0 }) (x1 : Int32) (kx112 : (Int32 × dk_S) → Option (Int32 × dk_S))  (hkx112 : ∀ t : Int32 × dk_S, dk_J p l e R s m args below meth c g 4 dk_qi 112 [(0, .ref (g.1 82)), (1, .int x1), (2, .int t.1)] [] t.2 (kx112 t) some) : ∀ (n : Nat) (x2 : Int32) (x3 : Int32) (S : dk_S), dk_J p l e R s m args below meth c g 4 dk_qi 4 [(0, .ref (g.1 82)), (1, .int x1), (2, .int x2), (3, .int x3)] [] S (fX9_counted_L4 x1 kx112 n x2 x3 S) some := by
  subst hR
  intro n
  induction n with
  | zero =>
    intro x2 x3 S
    exact dj_none
  | succ n ih =>
    intro x2 x3 S
    rw [fX9_counted_L4]
    refine dj_iload_n C 3 rfl dX9_counted_4 ?_
    refine dj_iconst C dX9_counted_5 dc_iconst_4 ?_
    refine dj_icmp_ge (tgt := 112) C dX9_counted_6 (by decide) (fun c13 => ?_) (fun c13 => ?_)
    · refine dj_sub (lv2 := [(0, .ref (g.1 82)), (1, .int x1), (2, .int x2)]) [0, 1, 2] rfl ?_
      exact hkx112 (x2, S)
    · refine dj_iload_n C 2 rfl dX9_counted_9 ?_
      refine dj_iload_n C 1 rfl dX9_counted_10 ?_
      refine dj_join 99 (fun t14 : dk_S => [(0, .ref (g.1 82)), (1, .int x1), (3, .int x3)]) (fun t14 : dk_S => [.int x2]) (fun t14 : dk_S => t14) (fun t14 => ?_) (fun k15 hk15 => ?_)
      · refine dj_iconst C dX9_counted_99 dc_iconst_1 ?_
        refine dj_goto (tgt := 104) C dX9_counted_100 (by decide) ?_
        refine dj_iadd C dX9_counted_104 ?_
        refine dj_lti (fun y16 => ?_)
        refine dj_istore_n (lv2 := [(0, .ref (g.1 82)), (1, .int x1), (2, .int y16), (3, .int x3)]) C [1, 2, 0, 3] dX9_counted_105 rfl (by decide) rfl ?_
        refine dj_iinc (lv2 := [(0, .ref (g.1 82)), (1, .int x1), (2, .int y16), (3, .int (x3 + 1))]) C 3 rfl [1, 2, 3, 0] dX9_counted_106 dc_iconst_1 (by decide) rfl ?_
        refine dj_goto (tgt := 4) C dX9_counted_109 (by decide) ?_
        exact ih y16 (x3 + 1) t14
      · refine dj_join 23 (fun t17 : dk_S => [(0, .ref (g.1 82)), (1, .int x1), (3, .int x3)]) (fun t17 : dk_S => [.int x2]) (fun t17 : dk_S => t17) (fun t17 => ?_) (fun k18 hk18 => ?_)
        · refine dj_iload_n C 1 rfl dX9_counted_23 ?_
          refine dj_iconst C dX9_counted_24 dc_iconst_1 ?_
          refine dj_join 37 (fun t19 : dk_S => [(0, .ref (g.1 82)), (1, .int x1), (3, .int x3)]) (fun t19 : dk_S => [.int x2]) (fun t19 : dk_S => t19) (fun t19 => ?_) (fun k20 hk20 => ?_)
          · refine dj_iload_n C 1 rfl dX9_counted_37 ?_
            refine dj_iconst C dX9_counted_38 dc_iconst_2 ?_
            refine dj_join 66 (fun t21 : dk_S => [(0, .ref (g.1 82)), (1, .int x1), (3, .int x3)]) (fun t21 : dk_S => [.int x2]) (fun t21 : dk_S => t21) (fun t21 => ?_) (fun k22 hk22 => ?_)
            · refine dj_iload_n C 1 rfl dX9_counted_66 ?_
              refine dj_iconst C dX9_counted_67 dc_iconst_4 ?_
              refine dj_join 84 (fun t23 : dk_S => [(0, .ref (g.1 82)), (1, .int x1), (3, .int x3)]) (fun t23 : dk_S => [.int x2]) (fun t23 : dk_S => t23) (fun t23 => ?_) (fun k24 hk24 => ?_)
              · refine dj_iload_n C 1 rfl dX9_counted_84 ?_
                refine dj_bipush C dX9_counted_85 dc_bipush_6 ?_
                refine dj_join 103 (fun t25 : dk_S => [(0, .ref (g.1 82)), (1, .int x1), (3, .int x3)]) (fun t25 : dk_S => [.int x2]) (fun t25 : dk_S => t25) (fun t25 => ?_) (fun k26 hk26 => ?_)
                · refine dj_iconst C dX9_counted_103 dc_iconst_0 ?_
                  refine dj_iadd C dX9_counted_104 ?_
                  refine dj_lti (fun y27 => ?_)
                  refine dj_istore_n (lv2 := [(0, .ref (g.1 82)), (1, .int x1), (2, .int y27), (3, .int x3)]) C [1, 2, 0, 3] dX9_counted_105 rfl (by decide) rfl ?_
                  refine dj_iinc (lv2 := [(0, .ref (g.1 82)), (1, .int x1), (2, .int y27), (3, .int (x3 + 1))]) C 3 rfl [1, 2, 3, 0] dX9_counted_106 dc_iconst_1 (by decide) rfl ?_
                  refine dj_goto (tgt := 4) C dX9_counted_109 (by decide) ?_
                  exact ih y27 (x3 + 1) t25
                · refine dj_icmp_ne (tgt := 103) C dX9_counted_87 (by decide) (fun c28 => ?_) (fun c28 => ?_)
                  · exact hk26 t23
                  · refine dj_aload_n C 0 rfl dX9_counted_90 ?_
                    refine dj_getr (r := 5) (k2 := 87) C dl_X9_22 rfl dz_82 rfl dX9_counted_91 ?_
                    refine dj_iload_n C 2 rfl dX9_counted_94 ?_
                    refine dj_iald (n := 4) C dz_87 (by decide) dX9_counted_95 ?_
                    refine dj_if_lt (tgt := 103) C dX9_counted_96 (by decide) (fun c29 => ?_) (fun c29 => ?_)
                    · exact hk26 t23
                    · exact hk15 t23
              · refine dj_icmp_ne (tgt := 84) C dX9_counted_68 (by decide) (fun c30 => ?_) (fun c30 => ?_)
                · exact hk24 t21
                · refine dj_iload_n C 2 rfl dX9_counted_71 ?_
                  refine dj_if_le (tgt := 84) C dX9_counted_72 (by decide) (fun c31 => ?_) (fun c31 => ?_)
                  · exact hk24 t21
                  · refine dj_aload_n C 0 rfl dX9_counted_75 ?_
                    refine dj_getr (r := 15) (k2 := 97) C dl_X9_54 rfl dz_82 rfl dX9_counted_76 ?_
                    refine dj_iload_n C 2 rfl dX9_counted_79 ?_
                    refine dj_zald (n := 4) C dz_97 (by decide) dX9_counted_80 ?_
                    refine dj_if_ne (tgt := 99) C dX9_counted_81 (by decide) (fun c32 => ?_) (fun c32 => ?_)
                    · exact hk15 t21
                    · exact hk24 t21
            · refine dj_icmp_ne (tgt := 66) C dX9_counted_39 (by decide) (fun c33 => ?_) (fun c33 => ?_)
              · exact hk22 t19
              · refine dj_aload_n C 0 rfl dX9_counted_42 ?_
                refine dj_getr (r := 7) (k2 := 89) C dl_X9_29 rfl dz_82 rfl dX9_counted_43 ?_
                refine dj_iload_n C 2 rfl dX9_counted_46 ?_
                refine dj_zald (n := 4) C dz_89 (by decide) dX9_counted_47 ?_
                refine dj_if_eq (tgt := 66) C dX9_counted_48 (by decide) (fun c34 => ?_) (fun c34 => ?_)
                · exact hk22 t19
                · refine dj_aload_n C 0 rfl dX9_counted_51 ?_
                  refine dj_getr (r := 8) (k2 := 90) C dl_X9_33 rfl dz_82 rfl dX9_counted_52 ?_
                  refine dj_bipush C dX9_counted_55 dc_bipush_7 ?_
                  refine dj_iload_n C 2 rfl dX9_counted_57 ?_
                  refine dj_imul C dX9_counted_58 ?_
                  refine dj_bipush C dX9_counted_59 dc_bipush_6 ?_
                  refine dj_iadd C dX9_counted_61 ?_
                  refine dj_iald (n := 28) C dz_90 (by decide) dX9_counted_62 ?_
                  refine dj_if_gt (tgt := 99) C dX9_counted_63 (by decide) (fun c35 => ?_) (fun c35 => ?_)
                  · exact hk15 t19
                  · exact hk22 t19
          · refine dj_icmp_ne (tgt := 37) C dX9_counted_25 (by decide) (fun c36 => ?_) (fun c36 => ?_)
            · exact hk20 t17
            · refine dj_aload_n C 0 rfl dX9_counted_28 ?_
              refine dj_getr (r := 9) (k2 := 91) C dl_X9_36 rfl dz_82 rfl dX9_counted_29 ?_
              refine dj_iload_n C 2 rfl dX9_counted_32 ?_
              refine dj_zald (n := 4) C dz_91 (by decide) dX9_counted_33 ?_
              refine dj_if_ne (tgt := 99) C dX9_counted_34 (by decide) (fun c37 => ?_) (fun c37 => ?_)
              · exact hk15 t17
              · exact hk20 t17
        · refine dj_if_ne (tgt := 23) C dX9_counted_11 (by decide) (fun c38 => ?_) (fun c38 => ?_)
          · refine dj_sub (lv2 := [(0, .ref (g.1 82)), (1, .int x1), (3, .int x3)]) [0, 1, 3] rfl ?_
            exact hk18 S
          · refine dj_aload_n C 0 rfl dX9_counted_14 ?_
            refine dj_getr (r := 7) (k2 := 89) C dl_X9_29 rfl dz_82 rfl dX9_counted_15 ?_
            refine dj_iload_n C 3 rfl dX9_counted_18 ?_
            refine dj_zald (n := 4) C dz_89 (by decide) dX9_counted_19 ?_
            refine dj_if_ne (tgt := 99) C dX9_counted_20 (by decide) (fun c39 => ?_) (fun c39 => ?_)
            · refine dj_sub (lv2 := [(0, .ref (g.1 82)), (1, .int x1), (3, .int x3)]) [0, 1, 3] rfl ?_
              exact hk15 S
            · refine dj_sub (lv2 := [(0, .ref (g.1 82)), (1, .int x1), (3, .int x3)]) [0, 1, 3] rfl ?_
              exact hk18 S
set_option maxRecDepth 100000 in
set_option maxHeartbeats 4000000 in
theorem ct_X9_counted (l : Launch) (g : dk_G) (x1 : Int32) (S : dk_S)  : dk_M l g yX9_counted cX9_counted 4 (some .int) 0 0 [.ref (g.1 82), .int x1] S (fX9_counted x1 S) dk_qi := by
  refine dk_enter "DuckWalkModel" (by decide +kernel) rfl (Nat.le_of_ble_eq_true rfl) [(0, .ref (g.1 82)), (1, .int x1)] rfl ?_
  intro p e s m args below meth c C
  unfold fX9_counted
  refine dj_iconst C dX9_counted_0 dc_iconst_0 ?_
  refine dj_istore_n (lv2 := [(0, .ref (g.1 82)), (1, .int x1), (2, .int 0)]) C [1, 2, 0] dX9_counted_1 rfl (by decide) rfl ?_
  refine dj_iconst C dX9_counted_2 dc_iconst_0 ?_
  refine dj_istore_n (lv2 := [(0, .ref (g.1 82)), (1, .int x1), (2, .int 0), (3, .int 0)]) C [1, 2, 3, 0] dX9_counted_3 rfl (by decide) rfl ?_
  refine jX9_counted_L4 C rfl x1 _ (fun t1 => ?_) dk_FU 0 0 S
  · refine dj_iconst C dX9_counted_112 dc_iconst_0 ?_
    refine dj_istore_n (lv2 := [(0, .ref (g.1 82)), (1, .int x1), (2, .int t1.1), (3, .int 0)]) C [1, 2, 3, 0] dX9_counted_113 rfl (by decide) rfl ?_
    refine jX9_counted_L114 C rfl x1 _ (fun t2 => ?_) dk_FU t1.1 0 t1.2
    · refine dj_iload_n C 1 rfl dX9_counted_148 ?_
      refine dj_iconst C dX9_counted_149 dc_iconst_3 ?_
      refine dj_icmp_ne (tgt := 176) C dX9_counted_150 (by decide) (fun c3 => ?_) (fun c3 => ?_)
      · refine dj_iload_n C 2 rfl dX9_counted_176 ?_
        exact dj_iret C dX9_counted_177
      · refine dj_aload_n C 0 rfl dX9_counted_153 ?_
        refine dj_getr (r := 15) (k2 := 97) C dl_X9_54 rfl dz_82 rfl dX9_counted_154 ?_
        refine dj_iconst C dX9_counted_157 dc_iconst_0 ?_
        refine dj_zaldn (n := 4) (j := 0) C dz_97 (by decide) (by decide) (by decide) dX9_counted_158 ?_
        refine dj_if_eq (tgt := 172) C dX9_counted_159 (by decide) (fun c4 => ?_) (fun c4 => ?_)
        · refine dj_iconst C dX9_counted_172 dc_iconst_0 ?_
          refine dj_goto (tgt := 177) C dX9_counted_173 (by decide) ?_
          exact dj_iret C dX9_counted_177
        · refine dj_aload_n C 0 rfl dX9_counted_162 ?_
          refine dj_getr (r := 16) (k2 := 98) C dl_X9_57 rfl dz_82 rfl dX9_counted_163 ?_
          refine dj_bipush C dX9_counted_166 dc_bipush_9 ?_
          refine dj_ialdn (n := 456) (j := 9) C dz_98 (by decide) (by decide) (by decide) dX9_counted_168 ?_
          refine dj_goto (tgt := 177) C dX9_counted_169 (by decide) ?_
          exact dj_iret C dX9_counted_177
noncomputable def fX9_count (x1 : Int32) (S : dk_S) : Option (Int32 × dk_S) := (fX9_in x1 0 6 S).bind (fun r1 => if r1.1 = 0 then some ((-1), r1.2) else (fX9_counted x1 r1.2).bind (fun r3 => some (r3.1, r3.2)))
set_option maxRecDepth 100000 in
set_option maxHeartbeats 4000000 in
theorem ct_X9_count (l : Launch) (g : dk_G) (x1 : Int32) (S : dk_S)  : dk_M l g yX9_count cX9_count 2 (some .int) 1 23 [.ref (g.1 82), .int x1] S (fX9_count x1 S) dk_qi := by
  refine dk_enter "DuckWalkModel" (by decide +kernel) rfl (Nat.le_of_ble_eq_true rfl) [(0, .ref (g.1 82)), (1, .int x1)] rfl ?_
  intro p e s m args below meth c C
  unfold fX9_count
  refine dj_iload_n C 1 rfl dX9_count_0 ?_
  refine dj_iconst C dX9_count_1 dc_iconst_0 ?_
  refine dj_bipush C dX9_count_2 dc_bipush_6 ?_
  refine dj_callSi (As := [.int x1, .int 0, .int 6]) C dw_X9_80 (ct_X9_in l g x1 0 6 S) ⟨Nat.le_of_ble_eq_true rfl, Nat.le_of_ble_eq_true rfl⟩ rfl (Nat.le_of_ble_eq_true rfl) rfl dX9_count_4 (fun r1 => ?_)
  refine dj_if_eq (tgt := 18) C dX9_count_7 (by decide) (fun c2 => ?_) (fun c2 => ?_)
  · refine dj_iconst C dX9_count_18 dc_iconst_m1 ?_
    exact dj_iret C dX9_count_19
  · refine dj_aload_n C 0 rfl dX9_count_10 ?_
    refine dj_iload_n C 1 rfl dX9_count_11 ?_
    refine dj_callVi (t := 9) (As := [.int x1]) C dw_X9_262 ⟨_, _, rfl⟩ (by decide) dz_82 (ct_X9_counted l g x1 r1.2) ⟨Nat.le_of_ble_eq_true rfl, Nat.le_of_ble_eq_true rfl⟩ rfl (Nat.le_of_ble_eq_true rfl) rfl dX9_count_12 (fun r3 => ?_)
    refine dj_goto (tgt := 19) C dX9_count_15 (by decide) ?_
    exact dj_iret C dX9_count_19
noncomputable def fX9_mix (x1 : Int64) (S : dk_S) : Option (dk_S) := dk_lt (dk_sl S 82 40 ((31 * (S.2 82 40)) + x1)) (fun S1 => some S1)
set_option maxRecDepth 100000 in
set_option maxHeartbeats 4000000 in
theorem ct_X9_mix (l : Launch) (g : dk_G) (x1 : Int64) (S : dk_S)  : dk_M l g yX9_mix cX9_mix 3 none 0 0 [.ref (g.1 82), .long x1] S (fX9_mix x1 S) dk_qv := by
  refine dk_enter "DuckWalkModel" (by decide +kernel) rfl (Nat.le_of_ble_eq_true rfl) [(0, .ref (g.1 82)), (1, .long x1)] rfl ?_
  intro p e s m args below meth c C
  unfold fX9_mix
  refine dj_aload_n C 0 rfl dX9_mix_0 ?_
  refine dj_ldc2 C (dk_m6 104 rfl rfl) dX9_mix_1 ?_
  refine dj_aload_n C 0 rfl dX9_mix_4 ?_
  refine dj_getl C dl_X9_267 rfl dz_82 dX9_mix_5 ?_
  refine dj_lmul C dX9_mix_8 ?_
  refine dj_lload_n C 1 rfl dX9_mix_9 ?_
  refine dj_ladd C dX9_mix_10 ?_
  refine dj_putl C dl_X9_267 dp_9_40 rfl dz_82 dX9_mix_11 (fun S1 => ?_)
  exact dj_vret C dX9_mix_14
noncomputable def fX9_mixBooks_L154  : Nat → Int32 → dk_S → Option (dk_S)
  | 0, _, _ => none
  | n + 1, x1, S => if 7 ≤ x1 then some S else if (S.1 97 0) = 0 then some S else (fX9_walkTells x1 S).bind (fun r7 => (fX9_mix r7.1.toInt64 r7.2).bind (fun r8 => fX9_mixBooks_L154 n (x1 + 1) r8))
noncomputable def fX9_mixBooks_L93 (x1 : Int32) (kx130 : dk_S → Option (dk_S)) : Nat → Int32 → dk_S → Option (dk_S)
  | 0, _, _ => none
  | n + 1, x2, S => if 101 ≤ x2 then kx130 S else dk_gd (dk_in x1 4) (if (S.1 91 x1.toNatClampNeg) = 0 then kx130 S else dk_gd (dk_in ((101 * x1) + x2) 404) ((fX9_mix ((S.1 92 ((101 * x1) + x2).toNatClampNeg).toInt64) S).bind (fun r17 => fX9_mixBooks_L93 x1 kx130 n (x2 + 1) r17)))
noncomputable def fX9_mixBooks_L70 (kx136 : dk_S → Option (dk_S)) : Nat → Int32 → dk_S → Option (dk_S)
  | 0, _, _ => none
  | n + 1, x1, S => if 4 ≤ x1 then kx136 S else dk_gd (dk_in x1 4) (dk_lt (fun t12 : dk_S => (fX9_mixBooks_L93 x1 (fun t14 : dk_S => fX9_mixBooks_L70 kx136 n (x1 + 1) t14) dk_FU 0 t12 : Option (dk_S))) (fun k13 => if (S.1 91 x1.toNatClampNeg) = 0 then (fX9_mix (-1) S).bind (fun r19 => k13 r19) else k13 S))
noncomputable def fX9_mixBooks_L25 (x1 : Int32) (kx62 : dk_S → Option (dk_S)) : Nat → Int32 → dk_S → Option (dk_S)
  | 0, _, _ => none
  | n + 1, x2, S => if 7 ≤ x2 then kx62 S else dk_gd (dk_in x1 4) (if (S.1 89 x1.toNatClampNeg) = 0 then kx62 S else dk_gd (dk_in ((7 * x1) + x2) 28) ((fX9_mix ((S.1 90 ((7 * x1) + x2).toNatClampNeg).toInt64) S).bind (fun r26 => fX9_mixBooks_L25 x1 kx62 n (x2 + 1) r26)))
noncomputable def fX9_mixBooks_L2 (kx68 : dk_S → Option (dk_S)) : Nat → Int32 → dk_S → Option (dk_S)
  | 0, _, _ => none
  | n + 1, x1, S => if 4 ≤ x1 then kx68 S else dk_gd (dk_in x1 4) (dk_lt (fun t21 : dk_S => (fX9_mixBooks_L25 x1 (fun t23 : dk_S => fX9_mixBooks_L2 kx68 n (x1 + 1) t23) dk_FU 0 t21 : Option (dk_S))) (fun k22 => if (S.1 89 x1.toNatClampNeg) = 0 then (fX9_mix (-1) S).bind (fun r28 => k22 r28) else k22 S))
noncomputable def fX9_mixBooks  (S : dk_S) : Option (dk_S) := fX9_mixBooks_L2 (fun t1 : dk_S => fX9_mixBooks_L70 (fun t2 : dk_S => dk_lt (fun t3 : dk_S => (fX9_mixBooks_L154 dk_FU 0 t3 : Option (dk_S))) (fun k4 => if (t2.1 97 0) = 0 then (fX9_mix (-1) t2).bind (fun r10 => k4 r10) else k4 t2)) dk_FU 0 t1) dk_FU 0 S
set_option maxRecDepth 100000 in
set_option maxHeartbeats 4000000 in
theorem jX9_mixBooks_L154 {p : Program} {l : Launch} {e : Env} {R : Room} {s : State} {m : MethodId} {args : Array Value} {below : List Frame} {meth : Method} {c : Code} {g : dk_G} (C : dk_C p l e R s m args below meth c g cX9_mixBooks "DuckWalkModel" 3 none) (hR : R = { frames := 1, cells := 0, slots := 0, locals := 22 })    : ∀ (n : Nat) (x1 : Int32) (S : dk_S), dk_J p l e R s m args below meth c g 3 dk_qv 154 [(0, .ref (g.1 82)), (1, .int x1)] [] S (fX9_mixBooks_L154 n x1 S) some := by
  subst hR
  intro n
  induction n with
  | zero =>
    intro x1 S
    exact dj_none
  | succ n ih =>
    intro x1 S
    rw [fX9_mixBooks_L154]
    refine dj_iload_n C 1 rfl dX9_mixBooks_154 ?_
    refine dj_bipush C dX9_mixBooks_155 dc_bipush_7 ?_
    refine dj_icmp_ge (tgt := 185) C dX9_mixBooks_157 (by decide) (fun c5 => ?_) (fun c5 => ?_)
    · exact dj_vret C dX9_mixBooks_185
    · refine dj_aload_n C 0 rfl dX9_mixBooks_160 ?_
      refine dj_getr (r := 15) (k2 := 97) C dl_X9_54 rfl dz_82 rfl dX9_mixBooks_161 ?_
      refine dj_iconst C dX9_mixBooks_164 dc_iconst_0 ?_
      refine dj_zaldn (n := 4) (j := 0) C dz_97 (by decide) (by decide) (by decide) dX9_mixBooks_165 ?_
      refine dj_if_eq (tgt := 185) C dX9_mixBooks_166 (by decide) (fun c6 => ?_) (fun c6 => ?_)
      · exact dj_vret C dX9_mixBooks_185
      · refine dj_aload_n C 0 rfl dX9_mixBooks_169 ?_
        refine dj_aload_n C 0 rfl dX9_mixBooks_170 ?_
        refine dj_iload_n C 1 rfl dX9_mixBooks_171 ?_
        refine dj_callVi (t := 9) (As := [.int x1]) C dw_X9_197 ⟨_, _, rfl⟩ (by decide) dz_82 (ct_X9_walkTells l g x1 S) ⟨Nat.le_of_ble_eq_true rfl, Nat.le_of_ble_eq_true rfl⟩ rfl (Nat.le_of_ble_eq_true rfl) rfl dX9_mixBooks_172 (fun r7 => ?_)
        refine dj_i2l C dX9_mixBooks_175 ?_
        refine dj_callVv (t := 9) (As := [.long r7.1.toInt64]) C dw_X9_272 ⟨_, _, rfl⟩ (by decide) dz_82 (ct_X9_mix l g r7.1.toInt64 r7.2) ⟨Nat.le_of_ble_eq_true rfl, Nat.le_of_ble_eq_true rfl⟩ rfl (Nat.le_of_ble_eq_true rfl) rfl dX9_mixBooks_176 (fun r8 => ?_)
        refine dj_iinc (lv2 := [(0, .ref (g.1 82)), (1, .int (x1 + 1))]) C 1 rfl [1, 0] dX9_mixBooks_179 dc_iconst_1 (by decide) rfl ?_
        refine dj_goto (tgt := 154) C dX9_mixBooks_182 (by decide) ?_
        exact ih (x1 + 1) r8
set_option maxRecDepth 100000 in
set_option maxHeartbeats 4000000 in
theorem jX9_mixBooks_L93 {p : Program} {l : Launch} {e : Env} {R : Room} {s : State} {m : MethodId} {args : Array Value} {below : List Frame} {meth : Method} {c : Code} {g : dk_G} (C : dk_C p l e R s m args below meth c g cX9_mixBooks "DuckWalkModel" 3 none) (hR : R = { frames := 1, cells := 0, slots := 0, locals := 22 }) (x1 : Int32) (kx130 : dk_S → Option (dk_S))  (hkx130 : ∀ t : dk_S, dk_J p l e R s m args below meth c g 3 dk_qv 130 [(0, .ref (g.1 82)), (1, .int x1)] [] t (kx130 t) some) : ∀ (n : Nat) (x2 : Int32) (S : dk_S), dk_J p l e R s m args below meth c g 3 dk_qv 93 [(0, .ref (g.1 82)), (1, .int x1), (2, .int x2)] [] S (fX9_mixBooks_L93 x1 kx130 n x2 S) some := by
  subst hR
  intro n
  induction n with
  | zero =>
    intro x2 S
    exact dj_none
  | succ n ih =>
    intro x2 S
    rw [fX9_mixBooks_L93]
    refine dj_iload_n C 2 rfl dX9_mixBooks_93 ?_
    refine dj_bipush C dX9_mixBooks_94 dc_bipush_101 ?_
    refine dj_icmp_ge (tgt := 130) C dX9_mixBooks_96 (by decide) (fun c15 => ?_) (fun c15 => ?_)
    · refine dj_sub (lv2 := [(0, .ref (g.1 82)), (1, .int x1)]) [0, 1] rfl ?_
      exact hkx130 S
    · refine dj_aload_n C 0 rfl dX9_mixBooks_99 ?_
      refine dj_getr (r := 9) (k2 := 91) C dl_X9_36 rfl dz_82 rfl dX9_mixBooks_100 ?_
      refine dj_iload_n C 1 rfl dX9_mixBooks_103 ?_
      refine dj_zald (n := 4) C dz_91 (by decide) dX9_mixBooks_104 ?_
      refine dj_if_eq (tgt := 130) C dX9_mixBooks_105 (by decide) (fun c16 => ?_) (fun c16 => ?_)
      · refine dj_sub (lv2 := [(0, .ref (g.1 82)), (1, .int x1)]) [0, 1] rfl ?_
        exact hkx130 S
      · refine dj_aload_n C 0 rfl dX9_mixBooks_108 ?_
        refine dj_aload_n C 0 rfl dX9_mixBooks_109 ?_
        refine dj_getr (r := 10) (k2 := 92) C dl_X9_39 rfl dz_82 rfl dX9_mixBooks_110 ?_
        refine dj_bipush C dX9_mixBooks_113 dc_bipush_101 ?_
        refine dj_iload_n C 1 rfl dX9_mixBooks_115 ?_
        refine dj_imul C dX9_mixBooks_116 ?_
        refine dj_iload_n C 2 rfl dX9_mixBooks_117 ?_
        refine dj_iadd C dX9_mixBooks_118 ?_
        refine dj_iald (n := 404) C dz_92 (by decide) dX9_mixBooks_119 ?_
        refine dj_i2l C dX9_mixBooks_120 ?_
        refine dj_callVv (t := 9) (As := [.long ((S.1 92 ((101 * x1) + x2).toNatClampNeg).toInt64)]) C dw_X9_272 ⟨_, _, rfl⟩ (by decide) dz_82 (ct_X9_mix l g ((S.1 92 ((101 * x1) + x2).toNatClampNeg).toInt64) S) ⟨Nat.le_of_ble_eq_true rfl, Nat.le_of_ble_eq_true rfl⟩ rfl (Nat.le_of_ble_eq_true rfl) rfl dX9_mixBooks_121 (fun r17 => ?_)
        refine dj_iinc (lv2 := [(0, .ref (g.1 82)), (1, .int x1), (2, .int (x2 + 1))]) C 2 rfl [1, 2, 0] dX9_mixBooks_124 dc_iconst_1 (by decide) rfl ?_
        refine dj_goto (tgt := 93) C dX9_mixBooks_127 (by decide) ?_
        exact ih (x2 + 1) r17
set_option maxRecDepth 100000 in
set_option maxHeartbeats 4000000 in
theorem jX9_mixBooks_L70 {p : Program} {l : Launch} {e : Env} {R : Room} {s : State} {m : MethodId} {args : Array Value} {below : List Frame} {meth : Method} {c : Code} {g : dk_G} (C : dk_C p l e R s m args below meth c g cX9_mixBooks "DuckWalkModel" 3 none) (hR : R = { frames := 1, cells := 0, slots := 0, locals := 22 }) (kx136 : dk_S → Option (dk_S))  (hkx136 : ∀ t : dk_S, dk_J p l e R s m args below meth c g 3 dk_qv 136 [(0, .ref (g.1 82))] [] t (kx136 t) some) : ∀ (n : Nat) (x1 : Int32) (S : dk_S), dk_J p l e R s m args below meth c g 3 dk_qv 70 [(0, .ref (g.1 82)), (1, .int x1)] [] S (fX9_mixBooks_L70 kx136 n x1 S) some := by
  subst hR
  intro n
  induction n with
  | zero =>
    intro x1 S
    exact dj_none
  | succ n ih =>
    intro x1 S
    rw [fX9_mixBooks_L70]
    refine dj_iload_n C 1 rfl dX9_mixBooks_70 ?_
    refine dj_iconst C dX9_mixBooks_71 dc_iconst_4 ?_
    refine dj_icmp_ge (tgt := 136) C dX9_mixBooks_72 (by decide) (fun c11 => ?_) (fun c11 => ?_)
    · refine dj_sub (lv2 := [(0, .ref (g.1 82))]) [0] rfl ?_
      exact hkx136 S
    · refine dj_aload_n C 0 rfl dX9_mixBooks_75 ?_
      refine dj_getr (r := 9) (k2 := 91) C dl_X9_36 rfl dz_82 rfl dX9_mixBooks_76 ?_
      refine dj_iload_n C 1 rfl dX9_mixBooks_79 ?_
      refine dj_zald (n := 4) C dz_91 (by decide) dX9_mixBooks_80 ?_
      refine dj_join 91 (fun t12 : dk_S => [(0, .ref (g.1 82)), (1, .int x1)]) (fun t12 : dk_S => []) (fun t12 : dk_S => t12) (fun t12 => ?_) (fun k13 hk13 => ?_)
      · refine dj_iconst C dX9_mixBooks_91 dc_iconst_0 ?_
        refine dj_istore_n (lv2 := [(0, .ref (g.1 82)), (1, .int x1), (2, .int 0)]) C [1, 2, 0] dX9_mixBooks_92 rfl (by decide) rfl ?_
        refine jX9_mixBooks_L93 C rfl x1 _ (fun t14 => ?_) dk_FU 0 t12
        · refine dj_iinc (lv2 := [(0, .ref (g.1 82)), (1, .int (x1 + 1))]) C 1 rfl [1, 0] dX9_mixBooks_130 dc_iconst_1 (by decide) rfl ?_
          refine dj_goto (tgt := 70) C dX9_mixBooks_133 (by decide) ?_
          exact ih (x1 + 1) t14
      · refine dj_if_ne (tgt := 91) C dX9_mixBooks_81 (by decide) (fun c18 => ?_) (fun c18 => ?_)
        · exact hk13 S
        · refine dj_aload_n C 0 rfl dX9_mixBooks_84 ?_
          refine dj_ldc2 C (dk_m6 109 rfl rfl) dX9_mixBooks_85 ?_
          refine dj_callVv (t := 9) (As := [.long (-1)]) C dw_X9_272 ⟨_, _, rfl⟩ (by decide) dz_82 (ct_X9_mix l g (-1) S) ⟨Nat.le_of_ble_eq_true rfl, Nat.le_of_ble_eq_true rfl⟩ rfl (Nat.le_of_ble_eq_true rfl) rfl dX9_mixBooks_88 (fun r19 => ?_)
          exact hk13 r19
set_option maxRecDepth 100000 in
set_option maxHeartbeats 4000000 in
theorem jX9_mixBooks_L25 {p : Program} {l : Launch} {e : Env} {R : Room} {s : State} {m : MethodId} {args : Array Value} {below : List Frame} {meth : Method} {c : Code} {g : dk_G} (C : dk_C p l e R s m args below meth c g cX9_mixBooks "DuckWalkModel" 3 none) (hR : R = { frames := 1, cells := 0, slots := 0, locals := 22 }) (x1 : Int32) (kx62 : dk_S → Option (dk_S))  (hkx62 : ∀ t : dk_S, dk_J p l e R s m args below meth c g 3 dk_qv 62 [(0, .ref (g.1 82)), (1, .int x1)] [] t (kx62 t) some) : ∀ (n : Nat) (x2 : Int32) (S : dk_S), dk_J p l e R s m args below meth c g 3 dk_qv 25 [(0, .ref (g.1 82)), (1, .int x1), (2, .int x2)] [] S (fX9_mixBooks_L25 x1 kx62 n x2 S) some := by
  subst hR
  intro n
  induction n with
  | zero =>
    intro x2 S
    exact dj_none
  | succ n ih =>
    intro x2 S
    rw [fX9_mixBooks_L25]
    refine dj_iload_n C 2 rfl dX9_mixBooks_25 ?_
    refine dj_bipush C dX9_mixBooks_26 dc_bipush_7 ?_
    refine dj_icmp_ge (tgt := 62) C dX9_mixBooks_28 (by decide) (fun c24 => ?_) (fun c24 => ?_)
    · refine dj_sub (lv2 := [(0, .ref (g.1 82)), (1, .int x1)]) [0, 1] rfl ?_
      exact hkx62 S
    · refine dj_aload_n C 0 rfl dX9_mixBooks_31 ?_
      refine dj_getr (r := 7) (k2 := 89) C dl_X9_29 rfl dz_82 rfl dX9_mixBooks_32 ?_
      refine dj_iload_n C 1 rfl dX9_mixBooks_35 ?_
      refine dj_zald (n := 4) C dz_89 (by decide) dX9_mixBooks_36 ?_
      refine dj_if_eq (tgt := 62) C dX9_mixBooks_37 (by decide) (fun c25 => ?_) (fun c25 => ?_)
      · refine dj_sub (lv2 := [(0, .ref (g.1 82)), (1, .int x1)]) [0, 1] rfl ?_
        exact hkx62 S
      · refine dj_aload_n C 0 rfl dX9_mixBooks_40 ?_
        refine dj_aload_n C 0 rfl dX9_mixBooks_41 ?_
        refine dj_getr (r := 8) (k2 := 90) C dl_X9_33 rfl dz_82 rfl dX9_mixBooks_42 ?_
        refine dj_bipush C dX9_mixBooks_45 dc_bipush_7 ?_
        refine dj_iload_n C 1 rfl dX9_mixBooks_47 ?_
        refine dj_imul C dX9_mixBooks_48 ?_
        refine dj_iload_n C 2 rfl dX9_mixBooks_49 ?_
        refine dj_iadd C dX9_mixBooks_50 ?_
        refine dj_iald (n := 28) C dz_90 (by decide) dX9_mixBooks_51 ?_
        refine dj_i2l C dX9_mixBooks_52 ?_
        refine dj_callVv (t := 9) (As := [.long ((S.1 90 ((7 * x1) + x2).toNatClampNeg).toInt64)]) C dw_X9_272 ⟨_, _, rfl⟩ (by decide) dz_82 (ct_X9_mix l g ((S.1 90 ((7 * x1) + x2).toNatClampNeg).toInt64) S) ⟨Nat.le_of_ble_eq_true rfl, Nat.le_of_ble_eq_true rfl⟩ rfl (Nat.le_of_ble_eq_true rfl) rfl dX9_mixBooks_53 (fun r26 => ?_)
        refine dj_iinc (lv2 := [(0, .ref (g.1 82)), (1, .int x1), (2, .int (x2 + 1))]) C 2 rfl [1, 2, 0] dX9_mixBooks_56 dc_iconst_1 (by decide) rfl ?_
        refine dj_goto (tgt := 25) C dX9_mixBooks_59 (by decide) ?_
        exact ih (x2 + 1) r26
set_option maxRecDepth 100000 in
set_option maxHeartbeats 4000000 in
theorem jX9_mixBooks_L2 {p : Program} {l : Launch} {e : Env} {R : Room} {s : State} {m : MethodId} {args : Array Value} {below : List Frame} {meth : Method} {c : Code} {g : dk_G} (C : dk_C p l e R s m args below meth c g cX9_mixBooks "DuckWalkModel" 3 none) (hR : R = { frames := 1, cells := 0, slots := 0, locals := 22 }) (kx68 : dk_S → Option (dk_S))  (hkx68 : ∀ t : dk_S, dk_J p l e R s m args below meth c g 3 dk_qv 68 [(0, .ref (g.1 82))] [] t (kx68 t) some) : ∀ (n : Nat) (x1 : Int32) (S : dk_S), dk_J p l e R s m args below meth c g 3 dk_qv 2 [(0, .ref (g.1 82)), (1, .int x1)] [] S (fX9_mixBooks_L2 kx68 n x1 S) some := by
  subst hR
  intro n
  induction n with
  | zero =>
    intro x1 S
    exact dj_none
  | succ n ih =>
    intro x1 S
    rw [fX9_mixBooks_L2]
    refine dj_iload_n C 1 rfl dX9_mixBooks_2 ?_
    refine dj_iconst C dX9_mixBooks_3 dc_iconst_4 ?_
    refine dj_icmp_ge (tgt := 68) C dX9_mixBooks_4 (by decide) (fun c20 => ?_) (fun c20 => ?_)
    · refine dj_sub (lv2 := [(0, .ref (g.1 82))]) [0] rfl ?_
      exact hkx68 S
    · refine dj_aload_n C 0 rfl dX9_mixBooks_7 ?_
      refine dj_getr (r := 7) (k2 := 89) C dl_X9_29 rfl dz_82 rfl dX9_mixBooks_8 ?_
      refine dj_iload_n C 1 rfl dX9_mixBooks_11 ?_
      refine dj_zald (n := 4) C dz_89 (by decide) dX9_mixBooks_12 ?_
      refine dj_join 23 (fun t21 : dk_S => [(0, .ref (g.1 82)), (1, .int x1)]) (fun t21 : dk_S => []) (fun t21 : dk_S => t21) (fun t21 => ?_) (fun k22 hk22 => ?_)
      · refine dj_iconst C dX9_mixBooks_23 dc_iconst_0 ?_
        refine dj_istore_n (lv2 := [(0, .ref (g.1 82)), (1, .int x1), (2, .int 0)]) C [1, 2, 0] dX9_mixBooks_24 rfl (by decide) rfl ?_
        refine jX9_mixBooks_L25 C rfl x1 _ (fun t23 => ?_) dk_FU 0 t21
        · refine dj_iinc (lv2 := [(0, .ref (g.1 82)), (1, .int (x1 + 1))]) C 1 rfl [1, 0] dX9_mixBooks_62 dc_iconst_1 (by decide) rfl ?_
          refine dj_goto (tgt := 2) C dX9_mixBooks_65 (by decide) ?_
          exact ih (x1 + 1) t23
      · refine dj_if_ne (tgt := 23) C dX9_mixBooks_13 (by decide) (fun c27 => ?_) (fun c27 => ?_)
        · exact hk22 S
        · refine dj_aload_n C 0 rfl dX9_mixBooks_16 ?_
          refine dj_ldc2 C (dk_m6 109 rfl rfl) dX9_mixBooks_17 ?_
          refine dj_callVv (t := 9) (As := [.long (-1)]) C dw_X9_272 ⟨_, _, rfl⟩ (by decide) dz_82 (ct_X9_mix l g (-1) S) ⟨Nat.le_of_ble_eq_true rfl, Nat.le_of_ble_eq_true rfl⟩ rfl (Nat.le_of_ble_eq_true rfl) rfl dX9_mixBooks_20 (fun r28 => ?_)
          exact hk22 r28
set_option maxRecDepth 100000 in
set_option maxHeartbeats 4000000 in
theorem ct_X9_mixBooks (l : Launch) (g : dk_G)  (S : dk_S)  : dk_M l g yX9_mixBooks cX9_mixBooks 3 none 1 22 [.ref (g.1 82)] S (fX9_mixBooks  S) dk_qv := by
  refine dk_enter "DuckWalkModel" (by decide +kernel) rfl (Nat.le_of_ble_eq_true rfl) [(0, .ref (g.1 82))] rfl ?_
  intro p e s m args below meth c C
  unfold fX9_mixBooks
  refine dj_iconst C dX9_mixBooks_0 dc_iconst_0 ?_
  refine dj_istore_n (lv2 := [(0, .ref (g.1 82)), (1, .int 0)]) C [1, 0] dX9_mixBooks_1 rfl (by decide) rfl ?_
  refine jX9_mixBooks_L2 C rfl _ (fun t1 => ?_) dk_FU 0 S
  · refine dj_iconst C dX9_mixBooks_68 dc_iconst_0 ?_
    refine dj_istore_n (lv2 := [(0, .ref (g.1 82)), (1, .int 0)]) C [1, 0] dX9_mixBooks_69 rfl (by decide) rfl ?_
    refine jX9_mixBooks_L70 C rfl _ (fun t2 => ?_) dk_FU 0 t1
    · refine dj_aload_n C 0 rfl dX9_mixBooks_136 ?_
      refine dj_getr (r := 15) (k2 := 97) C dl_X9_54 rfl dz_82 rfl dX9_mixBooks_137 ?_
      refine dj_iconst C dX9_mixBooks_140 dc_iconst_0 ?_
      refine dj_zaldn (n := 4) (j := 0) C dz_97 (by decide) (by decide) (by decide) dX9_mixBooks_141 ?_
      refine dj_join 152 (fun t3 : dk_S => [(0, .ref (g.1 82))]) (fun t3 : dk_S => []) (fun t3 : dk_S => t3) (fun t3 => ?_) (fun k4 hk4 => ?_)
      · refine dj_iconst C dX9_mixBooks_152 dc_iconst_0 ?_
        refine dj_istore_n (lv2 := [(0, .ref (g.1 82)), (1, .int 0)]) C [1, 0] dX9_mixBooks_153 rfl (by decide) rfl ?_
        refine jX9_mixBooks_L154 C rfl dk_FU 0 t3
      · refine dj_if_ne (tgt := 152) C dX9_mixBooks_142 (by decide) (fun c9 => ?_) (fun c9 => ?_)
        · exact hk4 t2
        · refine dj_aload_n C 0 rfl dX9_mixBooks_145 ?_
          refine dj_ldc2 C (dk_m6 109 rfl rfl) dX9_mixBooks_146 ?_
          refine dj_callVv (t := 9) (As := [.long (-1)]) C dw_X9_272 ⟨_, _, rfl⟩ (by decide) dz_82 (ct_X9_mix l g (-1) t2) ⟨Nat.le_of_ble_eq_true rfl, Nat.le_of_ble_eq_true rfl⟩ rfl (Nat.le_of_ble_eq_true rfl) rfl dX9_mixBooks_149 (fun r10 => ?_)
          exact hk4 r10
noncomputable def fX9_digest_L109 (x1 : Int32) (kx136 : dk_S → Option (Int64 × dk_S)) : Nat → Int32 → dk_S → Option (Int64 × dk_S)
  | 0, _, _ => none
  | n + 1, x2, S => dk_gd (dk_in x1 4) (if (S.1 87 x1.toNatClampNeg) ≤ x2 then kx136 S else (fX9_byteAt x1 x2 S).bind (fun r9 => (fX9_mix r9.1.toInt64 r9.2).bind (fun r10 => fX9_digest_L109 x1 kx136 n (x2 + 1) r10)))
noncomputable def fX9_digest_L91  : Nat → Int32 → dk_S → Option (Int64 × dk_S)
  | 0, _, _ => none
  | n + 1, x1, S => if 4 ≤ x1 then some (S.2 82 40, S) else dk_gd (dk_in x1 4) ((fX9_mix ((S.1 87 x1.toNatClampNeg).toInt64) S).bind (fun r6 => fX9_digest_L109 x1 (fun t7 : dk_S => fX9_digest_L91 n (x1 + 1) t7) dk_FU 0 r6))
noncomputable def fX9_digest_L56 (x1 : Int32) (kx83 : dk_S → Option (Int64 × dk_S)) : Nat → Int32 → dk_S → Option (Int64 × dk_S)
  | 0, _, _ => none
  | n + 1, x2, S => dk_gd (dk_in x1 6) (if (S.1 84 x1.toNatClampNeg) ≤ x2 then kx83 S else (fX9_rowAt x1 x2 S).bind (fun r15 => (fX9_mix r15.1.toInt64 r15.2).bind (fun r16 => fX9_digest_L56 x1 kx83 n (x2 + 1) r16)))
noncomputable def fX9_digest_L37 (kx89 : dk_S → Option (Int64 × dk_S)) : Nat → Int32 → dk_S → Option (Int64 × dk_S)
  | 0, _, _ => none
  | n + 1, x1, S => if 6 ≤ x1 then kx89 S else dk_gd (dk_in x1 6) ((fX9_mix ((S.1 84 x1.toNatClampNeg).toInt64) S).bind (fun r12 => fX9_digest_L56 x1 (fun t13 : dk_S => fX9_digest_L37 kx89 n (x1 + 1) t13) dk_FU 0 r12))
noncomputable def fX9_digest_L9 (kx31 : dk_S → Option (Int64 × dk_S)) : Nat → Int32 → dk_S → Option (Int64 × dk_S)
  | 0, _, _ => none
  | n + 1, x1, S => if 7 ≤ x1 then kx31 S else (fX9_counted x1 S).bind (fun r18 => (fX9_mix r18.1.toInt64 r18.2).bind (fun r19 => fX9_digest_L9 kx31 n (x1 + 1) r19))
noncomputable def fX9_digest  (S : dk_S) : Option (Int64 × dk_S) := dk_lt (dk_sl S 82 40 17) (fun S1 => fX9_digest_L9 (fun t2 : dk_S => (fX9_mixBooks t2).bind (fun r3 => fX9_digest_L37 (fun t4 : dk_S => fX9_digest_L91 dk_FU 0 t4) dk_FU 0 r3)) dk_FU 0 S1)
set_option maxRecDepth 100000 in
set_option maxHeartbeats 4000000 in
theorem jX9_digest_L109 {p : Program} {l : Launch} {e : Env} {R : Room} {s : State} {m : MethodId} {args : Array Value} {below : List Frame} {meth : Method} {c : Code} {g : dk_G} (C : dk_C p l e R s m args below meth c g cX9_digest "DuckWalkModel" 3 (some .long)) (hR : R = { frames := 2, cells := 0, slots := 0, locals := 44 }) (x1 : Int32) (kx136 : dk_S → Option (Int64 × dk_S))  (hkx136 : ∀ t : dk_S, dk_J p l e R s m args below meth c g 3 dk_ql 136 [(0, .ref (g.1 82)), (1, .int x1)] [] t (kx136 t) some) : ∀ (n : Nat) (x2 : Int32) (S : dk_S), dk_J p l e R s m args below meth c g 3 dk_ql 109 [(0, .ref (g.1 82)), (1, .int x1), (2, .int x2)] [] S (fX9_digest_L109 x1 kx136 n x2 S) some := by
  subst hR
  intro n
  induction n with
  | zero =>
    intro x2 S
    exact dj_none
  | succ n ih =>
    intro x2 S
    rw [fX9_digest_L109]
    refine dj_iload_n C 2 rfl dX9_digest_109 ?_
    refine dj_aload_n C 0 rfl dX9_digest_110 ?_
    refine dj_getr (r := 5) (k2 := 87) C dl_X9_22 rfl dz_82 rfl dX9_digest_111 ?_
    refine dj_iload_n C 1 rfl dX9_digest_114 ?_
    refine dj_iald (n := 4) C dz_87 (by decide) dX9_digest_115 ?_
    refine dj_icmp_ge (tgt := 136) C dX9_digest_116 (by decide) (fun c8 => ?_) (fun c8 => ?_)
    · refine dj_sub (lv2 := [(0, .ref (g.1 82)), (1, .int x1)]) [0, 1] rfl ?_
      exact hkx136 S
    · refine dj_aload_n C 0 rfl dX9_digest_119 ?_
      refine dj_aload_n C 0 rfl dX9_digest_120 ?_
      refine dj_iload_n C 1 rfl dX9_digest_121 ?_
      refine dj_iload_n C 2 rfl dX9_digest_122 ?_
      refine dj_callVi (t := 9) (As := [.int x1, .int x2]) C dw_X9_111 ⟨_, _, rfl⟩ (by decide) dz_82 (ct_X9_byteAt l g x1 x2 S) ⟨Nat.le_of_ble_eq_true rfl, Nat.le_of_ble_eq_true rfl⟩ rfl (Nat.le_of_ble_eq_true rfl) rfl dX9_digest_123 (fun r9 => ?_)
      refine dj_i2l C dX9_digest_126 ?_
      refine dj_callVv (t := 9) (As := [.long r9.1.toInt64]) C dw_X9_272 ⟨_, _, rfl⟩ (by decide) dz_82 (ct_X9_mix l g r9.1.toInt64 r9.2) ⟨Nat.le_of_ble_eq_true rfl, Nat.le_of_ble_eq_true rfl⟩ rfl (Nat.le_of_ble_eq_true rfl) rfl dX9_digest_127 (fun r10 => ?_)
      refine dj_iinc (lv2 := [(0, .ref (g.1 82)), (1, .int x1), (2, .int (x2 + 1))]) C 2 rfl [1, 2, 0] dX9_digest_130 dc_iconst_1 (by decide) rfl ?_
      refine dj_goto (tgt := 109) C dX9_digest_133 (by decide) ?_
      exact ih (x2 + 1) r10
set_option maxRecDepth 100000 in
set_option maxHeartbeats 4000000 in
theorem jX9_digest_L91 {p : Program} {l : Launch} {e : Env} {R : Room} {s : State} {m : MethodId} {args : Array Value} {below : List Frame} {meth : Method} {c : Code} {g : dk_G} (C : dk_C p l e R s m args below meth c g cX9_digest "DuckWalkModel" 3 (some .long)) (hR : R = { frames := 2, cells := 0, slots := 0, locals := 44 })    : ∀ (n : Nat) (x1 : Int32) (S : dk_S), dk_J p l e R s m args below meth c g 3 dk_ql 91 [(0, .ref (g.1 82)), (1, .int x1)] [] S (fX9_digest_L91 n x1 S) some := by
  subst hR
  intro n
  induction n with
  | zero =>
    intro x1 S
    exact dj_none
  | succ n ih =>
    intro x1 S
    rw [fX9_digest_L91]
    refine dj_iload_n C 1 rfl dX9_digest_91 ?_
    refine dj_iconst C dX9_digest_92 dc_iconst_4 ?_
    refine dj_icmp_ge (tgt := 142) C dX9_digest_93 (by decide) (fun c5 => ?_) (fun c5 => ?_)
    · refine dj_aload_n C 0 rfl dX9_digest_142 ?_
      refine dj_getl C dl_X9_267 rfl dz_82 dX9_digest_143 ?_
      exact dj_lret C dX9_digest_146
    · refine dj_aload_n C 0 rfl dX9_digest_96 ?_
      refine dj_aload_n C 0 rfl dX9_digest_97 ?_
      refine dj_getr (r := 5) (k2 := 87) C dl_X9_22 rfl dz_82 rfl dX9_digest_98 ?_
      refine dj_iload_n C 1 rfl dX9_digest_101 ?_
      refine dj_iald (n := 4) C dz_87 (by decide) dX9_digest_102 ?_
      refine dj_i2l C dX9_digest_103 ?_
      refine dj_callVv (t := 9) (As := [.long ((S.1 87 x1.toNatClampNeg).toInt64)]) C dw_X9_272 ⟨_, _, rfl⟩ (by decide) dz_82 (ct_X9_mix l g ((S.1 87 x1.toNatClampNeg).toInt64) S) ⟨Nat.le_of_ble_eq_true rfl, Nat.le_of_ble_eq_true rfl⟩ rfl (Nat.le_of_ble_eq_true rfl) rfl dX9_digest_104 (fun r6 => ?_)
      refine dj_iconst C dX9_digest_107 dc_iconst_0 ?_
      refine dj_istore_n (lv2 := [(0, .ref (g.1 82)), (1, .int x1), (2, .int 0)]) C [1, 2, 0] dX9_digest_108 rfl (by decide) rfl ?_
      refine jX9_digest_L109 C rfl x1 _ (fun t7 => ?_) dk_FU 0 r6
      · refine dj_iinc (lv2 := [(0, .ref (g.1 82)), (1, .int (x1 + 1))]) C 1 rfl [1, 0] dX9_digest_136 dc_iconst_1 (by decide) rfl ?_
        refine dj_goto (tgt := 91) C dX9_digest_139 (by decide) ?_
        exact ih (x1 + 1) t7
set_option maxRecDepth 100000 in
set_option maxHeartbeats 4000000 in
theorem jX9_digest_L56 {p : Program} {l : Launch} {e : Env} {R : Room} {s : State} {m : MethodId} {args : Array Value} {below : List Frame} {meth : Method} {c : Code} {g : dk_G} (C : dk_C p l e R s m args below meth c g cX9_digest "DuckWalkModel" 3 (some .long)) (hR : R = { frames := 2, cells := 0, slots := 0, locals := 44 }) (x1 : Int32) (kx83 : dk_S → Option (Int64 × dk_S))  (hkx83 : ∀ t : dk_S, dk_J p l e R s m args below meth c g 3 dk_ql 83 [(0, .ref (g.1 82)), (1, .int x1)] [] t (kx83 t) some) : ∀ (n : Nat) (x2 : Int32) (S : dk_S), dk_J p l e R s m args below meth c g 3 dk_ql 56 [(0, .ref (g.1 82)), (1, .int x1), (2, .int x2)] [] S (fX9_digest_L56 x1 kx83 n x2 S) some := by
  subst hR
  intro n
  induction n with
  | zero =>
    intro x2 S
    exact dj_none
  | succ n ih =>
    intro x2 S
    rw [fX9_digest_L56]
    refine dj_iload_n C 2 rfl dX9_digest_56 ?_
    refine dj_aload_n C 0 rfl dX9_digest_57 ?_
    refine dj_getr (r := 2) (k2 := 84) C dl_X9_13 rfl dz_82 rfl dX9_digest_58 ?_
    refine dj_iload_n C 1 rfl dX9_digest_61 ?_
    refine dj_iald (n := 6) C dz_84 (by decide) dX9_digest_62 ?_
    refine dj_icmp_ge (tgt := 83) C dX9_digest_63 (by decide) (fun c14 => ?_) (fun c14 => ?_)
    · refine dj_sub (lv2 := [(0, .ref (g.1 82)), (1, .int x1)]) [0, 1] rfl ?_
      exact hkx83 S
    · refine dj_aload_n C 0 rfl dX9_digest_66 ?_
      refine dj_aload_n C 0 rfl dX9_digest_67 ?_
      refine dj_iload_n C 1 rfl dX9_digest_68 ?_
      refine dj_iload_n C 2 rfl dX9_digest_69 ?_
      refine dj_callVi (t := 9) (As := [.int x1, .int x2]) C dw_X9_98 ⟨_, _, rfl⟩ (by decide) dz_82 (ct_X9_rowAt l g x1 x2 S) ⟨Nat.le_of_ble_eq_true rfl, Nat.le_of_ble_eq_true rfl⟩ rfl (Nat.le_of_ble_eq_true rfl) rfl dX9_digest_70 (fun r15 => ?_)
      refine dj_i2l C dX9_digest_73 ?_
      refine dj_callVv (t := 9) (As := [.long r15.1.toInt64]) C dw_X9_272 ⟨_, _, rfl⟩ (by decide) dz_82 (ct_X9_mix l g r15.1.toInt64 r15.2) ⟨Nat.le_of_ble_eq_true rfl, Nat.le_of_ble_eq_true rfl⟩ rfl (Nat.le_of_ble_eq_true rfl) rfl dX9_digest_74 (fun r16 => ?_)
      refine dj_iinc (lv2 := [(0, .ref (g.1 82)), (1, .int x1), (2, .int (x2 + 1))]) C 2 rfl [1, 2, 0] dX9_digest_77 dc_iconst_1 (by decide) rfl ?_
      refine dj_goto (tgt := 56) C dX9_digest_80 (by decide) ?_
      exact ih (x2 + 1) r16
set_option maxRecDepth 100000 in
set_option maxHeartbeats 4000000 in
theorem jX9_digest_L37 {p : Program} {l : Launch} {e : Env} {R : Room} {s : State} {m : MethodId} {args : Array Value} {below : List Frame} {meth : Method} {c : Code} {g : dk_G} (C : dk_C p l e R s m args below meth c g cX9_digest "DuckWalkModel" 3 (some .long)) (hR : R = { frames := 2, cells := 0, slots := 0, locals := 44 }) (kx89 : dk_S → Option (Int64 × dk_S))  (hkx89 : ∀ t : dk_S, dk_J p l e R s m args below meth c g 3 dk_ql 89 [(0, .ref (g.1 82))] [] t (kx89 t) some) : ∀ (n : Nat) (x1 : Int32) (S : dk_S), dk_J p l e R s m args below meth c g 3 dk_ql 37 [(0, .ref (g.1 82)), (1, .int x1)] [] S (fX9_digest_L37 kx89 n x1 S) some := by
  subst hR
  intro n
  induction n with
  | zero =>
    intro x1 S
    exact dj_none
  | succ n ih =>
    intro x1 S
    rw [fX9_digest_L37]
    refine dj_iload_n C 1 rfl dX9_digest_37 ?_
    refine dj_bipush C dX9_digest_38 dc_bipush_6 ?_
    refine dj_icmp_ge (tgt := 89) C dX9_digest_40 (by decide) (fun c11 => ?_) (fun c11 => ?_)
    · refine dj_sub (lv2 := [(0, .ref (g.1 82))]) [0] rfl ?_
      exact hkx89 S
    · refine dj_aload_n C 0 rfl dX9_digest_43 ?_
      refine dj_aload_n C 0 rfl dX9_digest_44 ?_
      refine dj_getr (r := 2) (k2 := 84) C dl_X9_13 rfl dz_82 rfl dX9_digest_45 ?_
      refine dj_iload_n C 1 rfl dX9_digest_48 ?_
      refine dj_iald (n := 6) C dz_84 (by decide) dX9_digest_49 ?_
      refine dj_i2l C dX9_digest_50 ?_
      refine dj_callVv (t := 9) (As := [.long ((S.1 84 x1.toNatClampNeg).toInt64)]) C dw_X9_272 ⟨_, _, rfl⟩ (by decide) dz_82 (ct_X9_mix l g ((S.1 84 x1.toNatClampNeg).toInt64) S) ⟨Nat.le_of_ble_eq_true rfl, Nat.le_of_ble_eq_true rfl⟩ rfl (Nat.le_of_ble_eq_true rfl) rfl dX9_digest_51 (fun r12 => ?_)
      refine dj_iconst C dX9_digest_54 dc_iconst_0 ?_
      refine dj_istore_n (lv2 := [(0, .ref (g.1 82)), (1, .int x1), (2, .int 0)]) C [1, 2, 0] dX9_digest_55 rfl (by decide) rfl ?_
      refine jX9_digest_L56 C rfl x1 _ (fun t13 => ?_) dk_FU 0 r12
      · refine dj_iinc (lv2 := [(0, .ref (g.1 82)), (1, .int (x1 + 1))]) C 1 rfl [1, 0] dX9_digest_83 dc_iconst_1 (by decide) rfl ?_
        refine dj_goto (tgt := 37) C dX9_digest_86 (by decide) ?_
        exact ih (x1 + 1) t13
set_option maxRecDepth 100000 in
set_option maxHeartbeats 4000000 in
theorem jX9_digest_L9 {p : Program} {l : Launch} {e : Env} {R : Room} {s : State} {m : MethodId} {args : Array Value} {below : List Frame} {meth : Method} {c : Code} {g : dk_G} (C : dk_C p l e R s m args below meth c g cX9_digest "DuckWalkModel" 3 (some .long)) (hR : R = { frames := 2, cells := 0, slots := 0, locals := 44 }) (kx31 : dk_S → Option (Int64 × dk_S))  (hkx31 : ∀ t : dk_S, dk_J p l e R s m args below meth c g 3 dk_ql 31 [(0, .ref (g.1 82))] [] t (kx31 t) some) : ∀ (n : Nat) (x1 : Int32) (S : dk_S), dk_J p l e R s m args below meth c g 3 dk_ql 9 [(0, .ref (g.1 82)), (1, .int x1)] [] S (fX9_digest_L9 kx31 n x1 S) some := by
  subst hR
  intro n
  induction n with
  | zero =>
    intro x1 S
    exact dj_none
  | succ n ih =>
    intro x1 S
    rw [fX9_digest_L9]
    refine dj_iload_n C 1 rfl dX9_digest_9 ?_
    refine dj_bipush C dX9_digest_10 dc_bipush_7 ?_
    refine dj_icmp_ge (tgt := 31) C dX9_digest_12 (by decide) (fun c17 => ?_) (fun c17 => ?_)
    · refine dj_sub (lv2 := [(0, .ref (g.1 82))]) [0] rfl ?_
      exact hkx31 S
    · refine dj_aload_n C 0 rfl dX9_digest_15 ?_
      refine dj_aload_n C 0 rfl dX9_digest_16 ?_
      refine dj_iload_n C 1 rfl dX9_digest_17 ?_
      refine dj_callVi (t := 9) (As := [.int x1]) C dw_X9_262 ⟨_, _, rfl⟩ (by decide) dz_82 (ct_X9_counted l g x1 S) ⟨Nat.le_of_ble_eq_true rfl, Nat.le_of_ble_eq_true rfl⟩ rfl (Nat.le_of_ble_eq_true rfl) rfl dX9_digest_18 (fun r18 => ?_)
      refine dj_i2l C dX9_digest_21 ?_
      refine dj_callVv (t := 9) (As := [.long r18.1.toInt64]) C dw_X9_272 ⟨_, _, rfl⟩ (by decide) dz_82 (ct_X9_mix l g r18.1.toInt64 r18.2) ⟨Nat.le_of_ble_eq_true rfl, Nat.le_of_ble_eq_true rfl⟩ rfl (Nat.le_of_ble_eq_true rfl) rfl dX9_digest_22 (fun r19 => ?_)
      refine dj_iinc (lv2 := [(0, .ref (g.1 82)), (1, .int (x1 + 1))]) C 1 rfl [1, 0] dX9_digest_25 dc_iconst_1 (by decide) rfl ?_
      refine dj_goto (tgt := 9) C dX9_digest_28 (by decide) ?_
      exact ih (x1 + 1) r19
set_option maxRecDepth 100000 in
set_option maxHeartbeats 4000000 in
theorem ct_X9_digest (l : Launch) (g : dk_G)  (S : dk_S)  : dk_M l g yX9_digest cX9_digest 3 (some .long) 2 44 [.ref (g.1 82)] S (fX9_digest  S) dk_ql := by
  refine dk_enter "DuckWalkModel" (by decide +kernel) rfl (Nat.le_of_ble_eq_true rfl) [(0, .ref (g.1 82))] rfl ?_
  intro p e s m args below meth c C
  unfold fX9_digest
  refine dj_aload_n C 0 rfl dX9_digest_0 ?_
  refine dj_ldc2 C (dk_m6 99 rfl rfl) dX9_digest_1 ?_
  refine dj_putl C dl_X9_267 dp_9_40 rfl dz_82 dX9_digest_4 (fun S1 => ?_)
  refine dj_iconst C dX9_digest_7 dc_iconst_0 ?_
  refine dj_istore_n (lv2 := [(0, .ref (g.1 82)), (1, .int 0)]) C [1, 0] dX9_digest_8 rfl (by decide) rfl ?_
  refine jX9_digest_L9 C rfl _ (fun t2 => ?_) dk_FU 0 S1
  · refine dj_aload_n C 0 rfl dX9_digest_31 ?_
    refine dj_callVv (t := 9) (As := []) C dw_X9_278 ⟨_, _, rfl⟩ (by decide) dz_82 (ct_X9_mixBooks l g t2) ⟨Nat.le_of_ble_eq_true rfl, Nat.le_of_ble_eq_true rfl⟩ rfl (Nat.le_of_ble_eq_true rfl) rfl dX9_digest_32 (fun r3 => ?_)
    refine dj_iconst C dX9_digest_35 dc_iconst_0 ?_
    refine dj_istore_n (lv2 := [(0, .ref (g.1 82)), (1, .int 0)]) C [1, 0] dX9_digest_36 rfl (by decide) rfl ?_
    refine jX9_digest_L37 C rfl _ (fun t4 => ?_) dk_FU 0 r3
    · refine dj_iconst C dX9_digest_89 dc_iconst_0 ?_
      refine dj_istore_n (lv2 := [(0, .ref (g.1 82)), (1, .int 0)]) C [1, 0] dX9_digest_90 rfl (by decide) rfl ?_
      refine jX9_digest_L91 C rfl dk_FU 0 t4
