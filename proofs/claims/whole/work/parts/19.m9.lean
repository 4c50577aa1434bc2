noncomputable def fX9_limp_L27 (x3 : Int32) : Nat → Int32 → Int32 → Int32 → dk_S → Option (Int32 × dk_S)
  | 0, _, _, _, _ => none
  | n + 1, x5, x6, x7, S => if 1000 ≤ x7 then (fX9_tells x6 x5 S).bind (fun r4 => some (r4.1, r4.2)) else (fX9_offTocks x3 (x7 / 10) (x7 - x7 / 10 * 10) S).bind (fun r5 => dk_lt (fun t6 : Int32 × Int32 × dk_S => (fX9_limp_L27 x3 n t6.1 t6.2.1 (x7 + 1) t6.2.2 : Option (Int32 × dk_S))) (fun k7 => dk_lt (fun t8 : dk_S => (k7 (x7, r5.1, t8) : Option (Int32 × dk_S))) (fun k9 => if x5 = (-9) then k9 r5.2 else if x6 ≤ r5.1 then k7 (x5, x6, r5.2) else k9 r5.2)))
noncomputable def fX9_limp (x1 : Int32) (x2 : Int32) (x3 : Int32) (S : dk_S) : Option (Int32 × dk_S) := (fX9_needTocks x1 x2 x3 S).bind (fun r1 => if 0 ≤ r1.1 then fX9_limp_L27 x3 dk_FU (-9) 0 0 r1.2 else some (r1.1, r1.2))
set_option maxRecDepth 100000 in
set_option maxHeartbeats 4000000 in
theorem jX9_limp_L27 {p : Program} {l : Launch} {e : Env} {R : Room} {s : State} {m : MethodId} {args : Array Value} {below : List Frame} {meth : Method} {c : Code} {g : dk_G} (C : dk_C p l e R s m args below meth c g cX9_limp "DuckWalkModel" 9 (some .int)) (hR : R = { frames := 4, cells := 0, slots := 0, locals := 90 }) (x3 : Int32)   : ∀ (n : Nat) (x5 : Int32) (x6 : Int32) (x7 : Int32) (S : dk_S), dk_J p l e R s m args below meth c g 9 dk_qi 27 [(0, .ref (g.1 82)), (3, .int x3), (5, .int x5), (6, .int x6), (7, .int x7)] [] S (fX9_limp_L27 x3 n x5 x6 x7 S) some := by
  subst hR
  intro n
  induction n with
  | zero =>
    intro x5 x6 x7 S
    exact dj_none
  | succ n ih =>
    intro x5 x6 x7 S
    rw [fX9_limp_L27]
    refine dj_iload C 4 rfl dX9_limp_27 ?_
    refine dj_sipush C dX9_limp_29 dc_sipush_1000 ?_
    refine dj_icmp_ge (tgt := 80) C dX9_limp_32 (by decide) (fun c3 => ?_) (fun c3 => ?_)
    · refine dj_aload_n C 0 rfl dX9_limp_80 ?_
      refine dj_iload C 3 rfl dX9_limp_81 ?_
      refine dj_iload C 2 rfl dX9_limp_83 ?_
      refine dj_callVi (t := 9) (As := [.int x6, .int x5]) C dw_X9_102 ⟨_, _, rfl⟩ (by decide) dz_82 (ct_X9_tells l g x6 x5 S) ⟨Nat.le_of_ble_eq_true rfl, Nat.le_of_ble_eq_true rfl⟩ rfl (Nat.le_of_ble_eq_true rfl) rfl dX9_limp_85 (fun r4 => ?_)
      exact dj_iret C dX9_limp_88
    · refine dj_aload_n C 0 rfl dX9_limp_35 ?_
      refine dj_iload_n C 1 rfl dX9_limp_36 ?_
      refine dj_iload C 4 rfl dX9_limp_37 ?_
      refine dj_bipush C dX9_limp_39 dc_bipush_10 ?_
      refine dj_idiv C dX9_limp_41 (by decide) ?_
      refine dj_iload C 4 rfl dX9_limp_42 ?_
      refine dj_bipush C dX9_limp_44 dc_bipush_10 ?_
      refine dj_irem C dX9_limp_46 (by decide) ?_
      refine dj_callVi (t := 9) (As := [.int x3, .int (x7 / 10), .int (x7 - x7 / 10 * 10)]) C dw_X9_255 ⟨_, _, rfl⟩ (by decide) dz_82 (ct_X9_offTocks l g x3 (x7 / 10) (x7 - x7 / 10 * 10) S) ⟨Nat.le_of_ble_eq_true rfl, Nat.le_of_ble_eq_true rfl⟩ rfl (Nat.le_of_ble_eq_true rfl) rfl dX9_limp_47 (fun r5 => ?_)
      refine dj_istore (lv2 := [(0, .ref (g.1 82)), (3, .int x3), (5, .int x5), (6, .int x6), (7, .int x7), (8, .int r5.1)]) C [1, 2, 3, 4, 5, 0] dX9_limp_50 (by decide) rfl ?_
      refine dj_iload C 2 rfl dX9_limp_52 ?_
      refine dj_bipush C dX9_limp_54 dc_bipush_m9 ?_
      refine dj_join 74 (fun t6 : Int32 × Int32 × dk_S => [(0, .ref (g.1 82)), (3, .int x3), (5, .int t6.1), (6, .int t6.2.1), (7, .int x7)]) (fun t6 : Int32 × Int32 × dk_S => []) (fun t6 : Int32 × Int32 × dk_S => t6.2.2) (fun t6 => ?_) (fun k7 hk7 => ?_)
      · refine dj_iinc (lv2 := [(0, .ref (g.1 82)), (3, .int x3), (5, .int t6.1), (6, .int t6.2.1), (7, .int (x7 + 1))]) C 4 rfl [1, 2, 3, 4, 0] dX9_limp_74 dc_iconst_1 (by decide) rfl ?_
        refine dj_goto (tgt := 27) C dX9_limp_77 (by decide) ?_
        exact ih t6.1 t6.2.1 (x7 + 1) t6.2.2
      · refine dj_join 66 (fun t8 : dk_S => [(0, .ref (g.1 82)), (3, .int x3), (7, .int x7), (8, .int r5.1)]) (fun t8 : dk_S => []) (fun t8 : dk_S => t8) (fun t8 => ?_) (fun k9 hk9 => ?_)
        · refine dj_iload C 2 rfl dX9_limp_66 ?_
          refine dj_istore (lv2 := [(0, .ref (g.1 82)), (3, .int x3), (5, .int x7), (7, .int x7), (8, .int r5.1)]) C [1, 2, 0, 3, 4] dX9_limp_68 (by decide) rfl ?_
          refine dj_iload C 4 rfl dX9_limp_70 ?_
          refine dj_istore (lv2 := [(0, .ref (g.1 82)), (3, .int x3), (5, .int x7), (6, .int r5.1), (7, .int x7)]) C [1, 2, 3, 0, 4] dX9_limp_72 (by decide) rfl ?_
          exact hk7 (x7, r5.1, t8)
        · refine dj_icmp_eq (tgt := 66) C dX9_limp_56 (by decide) (fun c10 => ?_) (fun c10 => ?_)
          · refine dj_sub (lv2 := [(0, .ref (g.1 82)), (3, .int x3), (7, .int x7), (8, .int r5.1)]) [0, 1, 4, 5] rfl ?_
            exact hk9 r5.2
          · refine dj_iload C 5 rfl dX9_limp_59 ?_
            refine dj_iload C 3 rfl dX9_limp_61 ?_
            refine dj_icmp_ge (tgt := 74) C dX9_limp_63 (by decide) (fun c11 => ?_) (fun c11 => ?_)
            · refine dj_sub (lv2 := [(0, .ref (g.1 82)), (3, .int x3), (5, .int x5), (6, .int x6), (7, .int x7)]) [0, 1, 2, 3, 4] rfl ?_
              exact hk7 (x5, x6, r5.2)
            · refine dj_sub (lv2 := [(0, .ref (g.1 82)), (3, .int x3), (7, .int x7), (8, .int r5.1)]) [0, 1, 4, 5] rfl ?_
              exact hk9 r5.2
set_option maxRecDepth 100000 in
set_option maxHeartbeats 4000000 in
theorem ct_X9_limp (l : Launch) (g : dk_G) (x1 : Int32) (x2 : Int32) (x3 : Int32) (S : dk_S)  : dk_M l g yX9_limp cX9_limp 9 (some .int) 4 90 [.ref (g.1 82), .int x1, .int x2, .int x3] S (fX9_limp x1 x2 x3 S) dk_qi := by
  refine dk_enter "DuckWalkModel" (by decide +kernel) rfl (Nat.le_of_ble_eq_true rfl) [(0, .ref (g.1 82)), (1, .int x1), (2, .int x2), (3, .int x3)] rfl ?_
  intro p e s m args below meth c C
  unfold fX9_limp
  refine dj_aload_n C 0 rfl dX9_limp_0 ?_
  refine dj_iload_n C 1 rfl dX9_limp_1 ?_
  refine dj_iload_n C 2 rfl dX9_limp_2 ?_
  refine dj_iload_n C 3 rfl dX9_limp_3 ?_
  refine dj_callVi (t := 9) (As := [.int x1, .int x2, .int x3]) C dw_X9_251 ⟨_, _, rfl⟩ (by decide) dz_82 (ct_X9_needTocks l g x1 x2 x3 S) ⟨Nat.le_of_ble_eq_true rfl, Nat.le_of_ble_eq_true rfl⟩ rfl (Nat.le_of_ble_eq_true rfl) rfl dX9_limp_4 (fun r1 => ?_)
  refine dj_istore (lv2 := [(0, .ref (g.1 82)), (3, .int x3), (4, .int r1.1)]) C [1, 4, 0] dX9_limp_7 (by decide) rfl ?_
  refine dj_iload C 2 rfl dX9_limp_9 ?_
  refine dj_if_ge (tgt := 17) C dX9_limp_11 (by decide) (fun c2 => ?_) (fun c2 => ?_)
  · refine dj_bipush C dX9_limp_17 dc_bipush_m9 ?_
    refine dj_istore (lv2 := [(0, .ref (g.1 82)), (3, .int x3), (5, .int (-9))]) C [1, 2, 0] dX9_limp_19 (by decide) rfl ?_
    refine dj_iconst C dX9_limp_21 dc_iconst_0 ?_
    refine dj_istore (lv2 := [(0, .ref (g.1 82)), (3, .int x3), (5, .int (-9)), (6, .int 0)]) C [1, 2, 3, 0] dX9_limp_22 (by decide) rfl ?_
    refine dj_iconst C dX9_limp_24 dc_iconst_0 ?_
    refine dj_istore (lv2 := [(0, .ref (g.1 82)), (3, .int x3), (5, .int (-9)), (6, .int 0), (7, .int 0)]) C [1, 2, 3, 4, 0] dX9_limp_25 (by decide) rfl ?_
    refine jX9_limp_L27 C rfl x3 dk_FU (-9) 0 0 r1.2
  · refine dj_iload C 2 rfl dX9_limp_14 ?_
    exact dj_iret C dX9_limp_16
noncomputable def fX9_odds_L30 (x3 : Int32) (kx127 : (Int32 × Int32 × dk_S) → Option (Int32 × dk_S)) : Nat → Int32 → Int32 → Int32 → Int32 → dk_S → Option (Int32 × dk_S)
  | 0, _, _, _, _, _ => none
  | n + 1, x5, x6, x7, x8, S => if 1000 ≤ x8 then kx127 (x6, x7, S) else (fX9_offTocks x3 (x8 / 10) (x8 - x8 / 10 * 10) S).bind (fun r6 => dk_lt (fun t7 : Int32 × Int32 × Int32 × dk_S => (dk_lt (if r6.1 = t7.1 then 1 else 0) (fun y9 : Int32 => dk_lt (t7.2.1 + y9) (fun y10 : Int32 => dk_lt (if r6.1 = t7.1 then if (x8 - x8 / 10 * 10) ≤ 0 then 0 else 1 else 0) (fun y11 : Int32 => dk_lt (t7.2.2.1 + y11) (fun y12 : Int32 => fX9_odds_L30 x3 kx127 n t7.1 y10 y12 (x8 + 1) t7.2.2.2)))) : Option (Int32 × dk_S))) (fun k8 => dk_lt (fun t16 : dk_S => (k8 (r6.1, 0, 0, t16) : Option (Int32 × dk_S))) (fun k17 => if x5 = (-9) then k17 r6.2 else if x5 ≤ r6.1 then k8 (x5, x6, x7, r6.2) else k17 r6.2)))
noncomputable def fX9_odds (x1 : Int32) (x2 : Int32) (x3 : Int32) (S : dk_S) : Option (Int32 × dk_S) := (fX9_needTocks x1 x2 x3 S).bind (fun r1 => if 0 ≤ r1.1 then fX9_odds_L30 x3 (fun t3 : Int32 × Int32 × dk_S => (fX9_fraction t3.2.1.toInt64 t3.1.toInt64 t3.1 t3.2.2).bind (fun r4 => some (r4.1, r4.2))) dk_FU (-9) 0 0 0 r1.2 else some (r1.1, r1.2))
set_option maxRecDepth 100000 in
set_option maxHeartbeats 4000000 in
theorem jX9_odds_L30 {p : Program} {l : Launch} {e : Env} {R : Room} {s : State} {m : MethodId} {args : Array Value} {below : List Frame} {meth : Method} {c : Code} {g : dk_G} (C : dk_C p l e R s m args below meth c g cX9_odds "DuckWalkModel" 10 (some .int)) (hR : R = { frames := 4, cells := 0, slots := 0, locals := 90 }) (x3 : Int32) (kx127 : (Int32 × Int32 × dk_S) → Option (Int32 × dk_S))  (hkx127 : ∀ t : Int32 × Int32 × dk_S, dk_J p l e R s m args below meth c g 10 dk_qi 127 [(0, .ref (g.1 82)), (6, .int t.1), (7, .int t.2.1)] [] t.2.2 (kx127 t) some) : ∀ (n : Nat) (x5 : Int32) (x6 : Int32) (x7 : Int32) (x8 : Int32) (S : dk_S), dk_J p l e R s m args below meth c g 10 dk_qi 30 [(0, .ref (g.1 82)), (3, .int x3), (5, .int x5), (6, .int x6), (7, .int x7), (8, .int x8)] [] S (fX9_odds_L30 x3 kx127 n x5 x6 x7 x8 S) some := by
  subst hR
  intro n
  induction n with
  | zero =>
    intro x5 x6 x7 x8 S
    exact dj_none
  | succ n ih =>
    intro x5 x6 x7 x8 S
    rw [fX9_odds_L30]
    refine dj_iload C 5 rfl dX9_odds_30 ?_
    refine dj_sipush C dX9_odds_32 dc_sipush_1000 ?_
    refine dj_icmp_ge (tgt := 127) C dX9_odds_35 (by decide) (fun c5 => ?_) (fun c5 => ?_)
    · refine dj_sub (lv2 := [(0, .ref (g.1 82)), (6, .int x6), (7, .int x7)]) [0, 3, 4] rfl ?_
      exact hkx127 (x6, x7, S)
    · refine dj_aload_n C 0 rfl dX9_odds_38 ?_
      refine dj_iload_n C 1 rfl dX9_odds_39 ?_
      refine dj_iload C 5 rfl dX9_odds_40 ?_
      refine dj_bipush C dX9_odds_42 dc_bipush_10 ?_
      refine dj_idiv C dX9_odds_44 (by decide) ?_
      refine dj_iload C 5 rfl dX9_odds_45 ?_
      refine dj_bipush C dX9_odds_47 dc_bipush_10 ?_
      refine dj_irem C dX9_odds_49 (by decide) ?_
      refine dj_callVi (t := 9) (As := [.int x3, .int (x8 / 10), .int (x8 - x8 / 10 * 10)]) C dw_X9_255 ⟨_, _, rfl⟩ (by decide) dz_82 (ct_X9_offTocks l g x3 (x8 / 10) (x8 - x8 / 10 * 10) S) ⟨Nat.le_of_ble_eq_true rfl, Nat.le_of_ble_eq_true rfl⟩ rfl (Nat.le_of_ble_eq_true rfl) rfl dX9_odds_50 (fun r6 => ?_)
      refine dj_istore (lv2 := [(0, .ref (g.1 82)), (3, .int x3), (5, .int x5), (6, .int x6), (7, .int x7), (8, .int x8), (9, .int r6.1)]) C [1, 2, 3, 4, 5, 6, 0] dX9_odds_53 (by decide) rfl ?_
      refine dj_iload C 2 rfl dX9_odds_55 ?_
      refine dj_bipush C dX9_odds_57 dc_bipush_m9 ?_
      refine dj_join 79 (fun t7 : Int32 × Int32 × Int32 × dk_S => [(0, .ref (g.1 82)), (3, .int x3), (5, .int t7.1), (6, .int t7.2.1), (7, .int t7.2.2.1), (8, .int x8), (9, .int r6.1)]) (fun t7 : Int32 × Int32 × Int32 × dk_S => []) (fun t7 : Int32 × Int32 × Int32 × dk_S => t7.2.2.2) (fun t7 => ?_) (fun k8 hk8 => ?_)
      · refine dj_iload C 3 rfl dX9_odds_79 ?_
        refine dj_iload C 6 rfl dX9_odds_81 ?_
        refine dj_iload C 2 rfl dX9_odds_83 ?_
        refine dj_dia 93 [.int t7.2.1] (fun y9 => ?_) (fun hd9 => ?_)
        · refine dj_iadd C dX9_odds_93 ?_
          refine dj_lti (fun y10 => ?_)
          refine dj_istore (lv2 := [(0, .ref (g.1 82)), (3, .int x3), (5, .int t7.1), (6, .int y10), (7, .int t7.2.2.1), (8, .int x8), (9, .int r6.1)]) C [1, 2, 3, 0, 4, 5, 6] dX9_odds_94 (by decide) rfl ?_
          refine dj_iload C 4 rfl dX9_odds_96 ?_
          refine dj_iload C 6 rfl dX9_odds_98 ?_
          refine dj_iload C 2 rfl dX9_odds_100 ?_
          refine dj_dia 118 [.int t7.2.2.1] (fun y11 => ?_) (fun hd11 => ?_)
          · refine dj_iadd C dX9_odds_118 ?_
            refine dj_lti (fun y12 => ?_)
            refine dj_istore (lv2 := [(0, .ref (g.1 82)), (3, .int x3), (5, .int t7.1), (6, .int y10), (7, .int y12), (8, .int x8)]) C [1, 2, 3, 4, 0, 5] dX9_odds_119 (by decide) rfl ?_
            refine dj_iinc (lv2 := [(0, .ref (g.1 82)), (3, .int x3), (5, .int t7.1), (6, .int y10), (7, .int y12), (8, .int (x8 + 1))]) C 5 rfl [1, 2, 3, 4, 5, 0] dX9_odds_121 dc_iconst_1 (by decide) rfl ?_
            refine dj_goto (tgt := 30) C dX9_odds_124 (by decide) ?_
            exact ih t7.1 y10 y12 (x8 + 1) t7.2.2.2
          · refine dj_ltite ?_
            refine dj_icmp_ne (tgt := 117) C dX9_odds_102 (by decide) (fun c13 => ?_) (fun c13 => ?_)
            · refine dj_iconst C dX9_odds_117 dc_iconst_0 ?_
              exact hd11 _
            · refine dj_iload C 5 rfl dX9_odds_105 ?_
              refine dj_bipush C dX9_odds_107 dc_bipush_10 ?_
              refine dj_irem C dX9_odds_109 (by decide) ?_
              refine dj_ltite ?_
              refine dj_if_le (tgt := 117) C dX9_odds_110 (by decide) (fun c14 => ?_) (fun c14 => ?_)
              · refine dj_iconst C dX9_odds_117 dc_iconst_0 ?_
                exact hd11 _
              · refine dj_iconst C dX9_odds_113 dc_iconst_1 ?_
                refine dj_goto (tgt := 118) C dX9_odds_114 (by decide) ?_
                exact hd11 _
        · refine dj_ltite ?_
          refine dj_icmp_ne (tgt := 92) C dX9_odds_85 (by decide) (fun c15 => ?_) (fun c15 => ?_)
          · refine dj_iconst C dX9_odds_92 dc_iconst_0 ?_
            exact hd9 _
          · refine dj_iconst C dX9_odds_88 dc_iconst_1 ?_
            refine dj_goto (tgt := 93) C dX9_odds_89 (by decide) ?_
            exact hd9 _
      · refine dj_join 69 (fun t16 : dk_S => [(0, .ref (g.1 82)), (3, .int x3), (8, .int x8), (9, .int r6.1)]) (fun t16 : dk_S => []) (fun t16 : dk_S => t16) (fun t16 => ?_) (fun k17 hk17 => ?_)
        · refine dj_iload C 3 rfl dX9_odds_69 ?_
          refine dj_istore (lv2 := [(0, .ref (g.1 82)), (3, .int x3), (5, .int r6.1), (8, .int x8), (9, .int r6.1)]) C [1, 2, 0, 3, 4] dX9_odds_71 (by decide) rfl ?_
          refine dj_iconst C dX9_odds_73 dc_iconst_0 ?_
          refine dj_istore (lv2 := [(0, .ref (g.1 82)), (3, .int x3), (5, .int r6.1), (6, .int 0), (8, .int x8), (9, .int r6.1)]) C [1, 2, 3, 0, 4, 5] dX9_odds_74 (by decide) rfl ?_
          refine dj_iconst C dX9_odds_76 dc_iconst_0 ?_
          refine dj_istore (lv2 := [(0, .ref (g.1 82)), (3, .int x3), (5, .int r6.1), (6, .int 0), (7, .int 0), (8, .int x8), (9, .int r6.1)]) C [1, 2, 3, 4, 0, 5, 6] dX9_odds_77 (by decide) rfl ?_
          exact hk8 (r6.1, 0, 0, t16)
        · refine dj_icmp_eq (tgt := 69) C dX9_odds_59 (by decide) (fun c18 => ?_) (fun c18 => ?_)
          · refine dj_sub (lv2 := [(0, .ref (g.1 82)), (3, .int x3), (8, .int x8), (9, .int r6.1)]) [0, 1, 5, 6] rfl ?_
            exact hk17 r6.2
          · refine dj_iload C 6 rfl dX9_odds_62 ?_
            refine dj_iload C 2 rfl dX9_odds_64 ?_
            refine dj_icmp_ge (tgt := 79) C dX9_odds_66 (by decide) (fun c19 => ?_) (fun c19 => ?_)
            · exact hk8 (x5, x6, x7, r6.2)
            · refine dj_sub (lv2 := [(0, .ref (g.1 82)), (3, .int x3), (8, .int x8), (9, .int r6.1)]) [0, 1, 5, 6] rfl ?_
              exact hk17 r6.2
set_option maxRecDepth 100000 in
set_option maxHeartbeats 4000000 in
theorem ct_X9_odds (l : Launch) (g : dk_G) (x1 : Int32) (x2 : Int32) (x3 : Int32) (S : dk_S)  : dk_M l g yX9_odds cX9_odds 10 (some .int) 4 90 [.ref (g.1 82), .int x1, .int x2, .int x3] S (fX9_odds x1 x2 x3 S) dk_qi := by
  refine dk_enter "DuckWalkModel" (by decide +kernel) rfl (Nat.le_of_ble_eq_true rfl) [(0, .ref (g.1 82)), (1, .int x1), (2, .int x2), (3, .int x3)] rfl ?_
  intro p e s m args below meth c C
  unfold fX9_odds
  refine dj_aload_n C 0 rfl dX9_odds_0 ?_
  refine dj_iload_n C 1 rfl dX9_odds_1 ?_
  refine dj_iload_n C 2 rfl dX9_odds_2 ?_
  refine dj_iload_n C 3 rfl dX9_odds_3 ?_
  refine dj_callVi (t := 9) (As := [.int x1, .int x2, .int x3]) C dw_X9_251 ⟨_, _, rfl⟩ (by decide) dz_82 (ct_X9_needTocks l g x1 x2 x3 S) ⟨Nat.le_of_ble_eq_true rfl, Nat.le_of_ble_eq_true rfl⟩ rfl (Nat.le_of_ble_eq_true rfl) rfl dX9_odds_4 (fun r1 => ?_)
  refine dj_istore (lv2 := [(0, .ref (g.1 82)), (3, .int x3), (4, .int r1.1)]) C [1, 4, 0] dX9_odds_7 (by decide) rfl ?_
  refine dj_iload C 2 rfl dX9_odds_9 ?_
  refine dj_if_ge (tgt := 17) C dX9_odds_11 (by decide) (fun c2 => ?_) (fun c2 => ?_)
  · refine dj_bipush C dX9_odds_17 dc_bipush_m9 ?_
    refine dj_istore (lv2 := [(0, .ref (g.1 82)), (3, .int x3), (5, .int (-9))]) C [1, 2, 0] dX9_odds_19 (by decide) rfl ?_
    refine dj_iconst C dX9_odds_21 dc_iconst_0 ?_
    refine dj_istore (lv2 := [(0, .ref (g.1 82)), (3, .int x3), (5, .int (-9)), (6, .int 0)]) C [1, 2, 3, 0] dX9_odds_22 (by decide) rfl ?_
    refine dj_iconst C dX9_odds_24 dc_iconst_0 ?_
    refine dj_istore (lv2 := [(0, .ref (g.1 82)), (3, .int x3), (5, .int (-9)), (6, .int 0), (7, .int 0)]) C [1, 2, 3, 4, 0] dX9_odds_25 (by decide) rfl ?_
    refine dj_iconst C dX9_odds_27 dc_iconst_0 ?_
    refine dj_istore (lv2 := [(0, .ref (g.1 82)), (3, .int x3), (5, .int (-9)), (6, .int 0), (7, .int 0), (8, .int 0)]) C [1, 2, 3, 4, 5, 0] dX9_odds_28 (by decide) rfl ?_
    refine jX9_odds_L30 C rfl x3 _ (fun t3 => ?_) dk_FU (-9) 0 0 0 r1.2
    · refine dj_aload_n C 0 rfl dX9_odds_127 ?_
      refine dj_iload C 2 rfl dX9_odds_128 ?_
      refine dj_i2l C dX9_odds_130 ?_
      refine dj_iload C 1 rfl dX9_odds_131 ?_
      refine dj_i2l C dX9_odds_133 ?_
      refine dj_iload C 1 rfl dX9_odds_134 ?_
      refine dj_callVi (t := 9) (As := [.long t3.2.1.toInt64, .long t3.1.toInt64, .int t3.1]) C dw_X9_258 ⟨_, _, rfl⟩ (by decide) dz_82 (ct_X9_fraction l g t3.2.1.toInt64 t3.1.toInt64 t3.1 t3.2.2) ⟨Nat.le_of_ble_eq_true rfl, Nat.le_of_ble_eq_true rfl⟩ rfl (Nat.le_of_ble_eq_true rfl) rfl dX9_odds_136 (fun r4 => ?_)
      exact dj_iret C dX9_odds_139
  · refine dj_iload C 2 rfl dX9_odds_14 ?_
    exact dj_iret C dX9_odds_16
noncomputable def fX9_part (x1 : Int32) (x2 : Int32) (x3 : Int32) (x4 : Int32) (S : dk_S) : Option (Int32 × dk_S) := (fX9_in x4 0 3 S).bind (fun r1 => (fX9_need r1.1 x1 x2 0 x3 r1.2).bind (fun r2 => if 0 ≤ r2.1 then (fX9_span x3 r2.2).bind (fun r4 => dk_gd (dk_in x4 6) (dk_lt (dk_si r4.2 95 x4.toNatClampNeg 1) (fun S5 => (fX9_span x3 S5).bind (fun r6 => (fX9_tells r6.1 ((100 + r4.1) - r6.1) r6.2).bind (fun r7 => some (r7.1, r7.2)))))) else some (r2.1, r2.2)))
set_option maxRecDepth 100000 in
set_option maxHeartbeats 4000000 in
theorem ct_X9_part (l : Launch) (g : dk_G) (x1 : Int32) (x2 : Int32) (x3 : Int32) (x4 : Int32) (S : dk_S)  : dk_M l g yX9_part cX9_part 8 (some .int) 6 131 [.ref (g.1 82), .int x1, .int x2, .int x3, .int x4] S (fX9_part x1 x2 x3 x4 S) dk_qi := by
  refine dk_enter "DuckWalkModel" (by decide +kernel) rfl (Nat.le_of_ble_eq_true rfl) [(0, .ref (g.1 82)), (1, .int x1), (2, .int x2), (3, .int x3), (4, .int x4)] rfl ?_
  intro p e s m args below meth c C
  unfold fX9_part
  refine dj_aload_n C 0 rfl dX9_part_0 ?_
  refine dj_iload C 4 rfl dX9_part_1 ?_
  refine dj_iconst C dX9_part_3 dc_iconst_0 ?_
  refine dj_iconst C dX9_part_4 dc_iconst_3 ?_
  refine dj_callSi (As := [.int x4, .int 0, .int 3]) C dw_X9_80 (ct_X9_in l g x4 0 3 S) ⟨Nat.le_of_ble_eq_true rfl, Nat.le_of_ble_eq_true rfl⟩ rfl (Nat.le_of_ble_eq_true rfl) rfl dX9_part_5 (fun r1 => ?_)
  refine dj_iload_n C 1 rfl dX9_part_8 ?_
  refine dj_iload_n C 2 rfl dX9_part_9 ?_
  refine dj_iconst C dX9_part_10 dc_iconst_0 ?_
  refine dj_iload_n C 3 rfl dX9_part_11 ?_
  refine dj_callVi (t := 9) (As := [.int r1.1, .int x1, .int x2, .int 0, .int x3]) C dw_X9_238 ⟨_, _, rfl⟩ (by decide) dz_82 (ct_X9_need l g r1.1 x1 x2 0 x3 r1.2) ⟨Nat.le_of_ble_eq_true rfl, Nat.le_of_ble_eq_true rfl⟩ rfl (Nat.le_of_ble_eq_true rfl) rfl dX9_part_12 (fun r2 => ?_)
  refine dj_istore (lv2 := [(0, .ref (g.1 82)), (3, .int x3), (4, .int x4), (5, .int r2.1)]) C [1, 4, 5, 0] dX9_part_15 (by decide) rfl ?_
  refine dj_iload C 3 rfl dX9_part_17 ?_
  refine dj_if_ge (tgt := 25) C dX9_part_19 (by decide) (fun c3 => ?_) (fun c3 => ?_)
  · refine dj_aload_n C 0 rfl dX9_part_25 ?_
    refine dj_iload_n C 1 rfl dX9_part_26 ?_
    refine dj_callVi (t := 9) (As := [.int x3]) C dw_X9_248 ⟨_, _, rfl⟩ (by decide) dz_82 (ct_X9_span l g x3 r2.2) ⟨Nat.le_of_ble_eq_true rfl, Nat.le_of_ble_eq_true rfl⟩ rfl (Nat.le_of_ble_eq_true rfl) rfl dX9_part_27 (fun r4 => ?_)
    refine dj_istore (lv2 := [(0, .ref (g.1 82)), (3, .int x3), (4, .int x4), (6, .int r4.1)]) C [1, 2, 3, 0] dX9_part_30 (by decide) rfl ?_
    refine dj_aload_n C 0 rfl dX9_part_32 ?_
    refine dj_getr (r := 13) (k2 := 95) C dl_X9_48 rfl dz_82 rfl dX9_part_33 ?_
    refine dj_iload C 2 rfl dX9_part_36 ?_
    refine dj_iconst C dX9_part_38 dc_iconst_1 ?_
    refine dj_iast (n := 6) C dz_95 (by decide) dX9_part_39 (fun S5 => ?_)
    refine dj_aload_n C 0 rfl dX9_part_40 ?_
    refine dj_iload_n C 1 rfl dX9_part_41 ?_
    refine dj_callVi (t := 9) (As := [.int x3]) C dw_X9_248 ⟨_, _, rfl⟩ (by decide) dz_82 (ct_X9_span l g x3 S5) ⟨Nat.le_of_ble_eq_true rfl, Nat.le_of_ble_eq_true rfl⟩ rfl (Nat.le_of_ble_eq_true rfl) rfl dX9_part_42 (fun r6 => ?_)
    refine dj_istore (lv2 := [(0, .ref (g.1 82)), (6, .int r4.1), (7, .int r6.1)]) C [1, 4, 0] dX9_part_45 (by decide) rfl ?_
    refine dj_aload_n C 0 rfl dX9_part_47 ?_
    refine dj_iload C 2 rfl dX9_part_48 ?_
    refine dj_bipush C dX9_part_50 dc_bipush_100 ?_
    refine dj_iload C 1 rfl dX9_part_52 ?_
    refine dj_iadd C dX9_part_54 ?_
    refine dj_iload C 2 rfl dX9_part_55 ?_
    refine dj_isub C dX9_part_57 ?_
    refine dj_callVi (t := 9) (As := [.int r6.1, .int ((100 + r4.1) - r6.1)]) C dw_X9_102 ⟨_, _, rfl⟩ (by decide) dz_82 (ct_X9_tells l g r6.1 ((100 + r4.1) - r6.1) r6.2) ⟨Nat.le_of_ble_eq_true rfl, Nat.le_of_ble_eq_true rfl⟩ rfl (Nat.le_of_ble_eq_true rfl) rfl dX9_part_58 (fun r7 => ?_)
    exact dj_iret C dX9_part_61
  · refine dj_iload C 3 rfl dX9_part_22 ?_
    exact dj_iret C dX9_part_24
noncomputable def fX9_made_L29 (x1 : Int32) (x2 : Int32) (x3 : Int32) (x4 : Int32) (kx164 : (Int32 × Int32 × dk_S) → Option (Int32 × dk_S)) : Nat → Int32 → Int32 → Int32 → dk_S → Option (Int32 × dk_S)
  | 0, _, _, _, _ => none
  | n + 1, x6, x7, x8, S => if 27 ≤ x8 then kx164 (x6, x7, S) else (fX9_looksAt x1 x2 x3 S).bind (fun r6 => dk_lt (dk_si r6 95 0 ((r6.1 95 0) + ((x8 / 9) - 1))) (fun S7 => dk_lt (dk_si S7 95 1 ((S7.1 95 1) + (((x8 / 3) - (x8 / 3) / 3 * 3) - 1))) (fun S8 => dk_lt (dk_si S8 95 2 ((S8.1 95 2) + ((x8 - x8 / 3 * 3) - 1))) (fun S9 => (fX9_in (S9.1 95 0) 1 9 S9).bind (fun r10 => dk_lt (fun t11 : Int32 × Int32 × dk_S => (fX9_made_L29 x1 x2 x3 x4 kx164 n t11.1 t11.2.1 (x8 + 1) t11.2.2 : Option (Int32 × dk_S))) (fun k12 => if r10.1 = 0 then k12 (x6, x7, r10.2) else (fX9_in (r10.2.1 95 1) 1 9 r10.2).bind (fun r14 => if r14.1 = 0 then k12 (x6, x7, r14.2) else (fX9_in (r14.2.1 95 2) 1 9 r14.2).bind (fun r16 => if r16.1 = 0 then k12 (x6, x7, r16.2) else (fX9_walksWell x4 r16.2).bind (fun r18 => dk_lt (if r18.1 = 0 then 0 else 1) (fun y19 : Int32 => dk_lt (x7 + y19) (fun y20 : Int32 => k12 (x6 + 1, y20, r18.2))))))))))))
noncomputable def fX9_made (x1 : Int32) (x2 : Int32) (x3 : Int32) (x4 : Int32) (S : dk_S) : Option (Int32 × dk_S) := (fX9_need 1 x1 x2 x3 x4 S).bind (fun r1 => if 0 ≤ r1.1 then fX9_made_L29 x1 x2 x3 x4 (fun t3 : Int32 × Int32 × dk_S => (fX9_fraction t3.2.1.toInt64 t3.1.toInt64 t3.1 t3.2.2).bind (fun r4 => some (r4.1, r4.2))) dk_FU 0 0 0 r1.2 else some (r1.1, r1.2))
set_option maxRecDepth 100000 in
set_option maxHeartbeats 4000000 in
theorem jX9_made_L29 {p : Program} {l : Launch} {e : Env} {R : Room} {s : State} {m : MethodId} {args : Array Value} {below : List Frame} {meth : Method} {c : Code} {g : dk_G} (C : dk_C p l e R s m args below meth c g cX9_made "DuckWalkModel" 9 (some .int)) (hR : R = { frames := 5, cells := 0, slots := 0, locals := 108 }) (x1 : Int32) (x2 : Int32) (x3 : Int32) (x4 : Int32) (kx164 : (Int32 × Int32 × dk_S) → Option (Int32 × dk_S))  (hkx164 : ∀ t : Int32 × Int32 × dk_S, dk_J p l e R s m args below meth c g 9 dk_qi 164 [(0, .ref (g.1 82)), (6, .int t.1), (7, .int t.2.1)] [] t.2.2 (kx164 t) some) : ∀ (n : Nat) (x6 : Int32) (x7 : Int32) (x8 : Int32) (S : dk_S), dk_J p l e R s m args below meth c g 9 dk_qi 29 [(0, .ref (g.1 82)), (1, .int x1), (2, .int x2), (3, .int x3), (4, .int x4), (6, .int x6), (7, .int x7), (8, .int x8)] [] S (fX9_made_L29 x1 x2 x3 x4 kx164 n x6 x7 x8 S) some := by
  subst hR
  intro n
  induction n with
  | zero =>
    intro x6 x7 x8 S
    exact dj_none
  | succ n ih =>
    intro x6 x7 x8 S
    rw [fX9_made_L29]
    refine dj_iload C 7 rfl dX9_made_29 ?_
    refine dj_bipush C dX9_made_31 dc_bipush_27 ?_
    refine dj_icmp_ge (tgt := 164) C dX9_made_33 (by decide) (fun c5 => ?_) (fun c5 => ?_)
    · refine dj_sub (lv2 := [(0, .ref (g.1 82)), (6, .int x6), (7, .int x7)]) [0, 5, 6] rfl ?_
      exact hkx164 (x6, x7, S)
    · refine dj_aload_n C 0 rfl dX9_made_36 ?_
      refine dj_iload_n C 1 rfl dX9_made_37 ?_
      refine dj_iload_n C 2 rfl dX9_made_38 ?_
      refine dj_iload_n C 3 rfl dX9_made_39 ?_
      refine dj_callVv (t := 9) (As := [.int x1, .int x2, .int x3]) C dw_X9_234 ⟨_, _, rfl⟩ (by decide) dz_82 (ct_X9_looksAt l g x1 x2 x3 S) ⟨Nat.le_of_ble_eq_true rfl, Nat.le_of_ble_eq_true rfl⟩ rfl (Nat.le_of_ble_eq_true rfl) rfl dX9_made_40 (fun r6 => ?_)
      refine dj_aload_n C 0 rfl dX9_made_43 ?_
      refine dj_getr (r := 13) (k2 := 95) C dl_X9_48 rfl dz_82 rfl dX9_made_44 ?_
      refine dj_iconst C dX9_made_47 dc_iconst_0 ?_
      refine dj_dup2 C dX9_made_48 rfl rfl ?_
      refine dj_ialdn (n := 6) (j := 0) C dz_95 (by decide) (by decide) (by decide) dX9_made_49 ?_
      refine dj_iload C 7 rfl dX9_made_50 ?_
      refine dj_bipush C dX9_made_52 dc_bipush_9 ?_
      refine dj_idiv C dX9_made_54 (by decide) ?_
      refine dj_iconst C dX9_made_55 dc_iconst_1 ?_
      refine dj_isub C dX9_made_56 ?_
      refine dj_iadd C dX9_made_57 ?_
      refine dj_iastn (n := 6) (j := 0) C dz_95 (by decide) (by decide) (by decide) dX9_made_58 (fun S7 => ?_)
      refine dj_aload_n C 0 rfl dX9_made_59 ?_
      refine dj_getr (r := 13) (k2 := 95) C dl_X9_48 rfl dz_82 rfl dX9_made_60 ?_
      refine dj_iconst C dX9_made_63 dc_iconst_1 ?_
      refine dj_dup2 C dX9_made_64 rfl rfl ?_
      refine dj_ialdn (n := 6) (j := 1) C dz_95 (by decide) (by decide) (by decide) dX9_made_65 ?_
      refine dj_iload C 7 rfl dX9_made_66 ?_
      refine dj_iconst C dX9_made_68 dc_iconst_3 ?_
      refine dj_idiv C dX9_made_69 (by decide) ?_
      refine dj_iconst C dX9_made_70 dc_iconst_3 ?_
      refine dj_irem C dX9_made_71 (by decide) ?_
      refine dj_iconst C dX9_made_72 dc_iconst_1 ?_
      refine dj_isub C dX9_made_73 ?_
      refine dj_iadd C dX9_made_74 ?_
      refine dj_iastn (n := 6) (j := 1) C dz_95 (by decide) (by decide) (by decide) dX9_made_75 (fun S8 => ?_)
      refine dj_aload_n C 0 rfl dX9_made_76 ?_
      refine dj_getr (r := 13) (k2 := 95) C dl_X9_48 rfl dz_82 rfl dX9_made_77 ?_
      refine dj_iconst C dX9_made_80 dc_iconst_2 ?_
      refine dj_dup2 C dX9_made_81 rfl rfl ?_
      refine dj_ialdn (n := 6) (j := 2) C dz_95 (by decide) (by decide) (by decide) dX9_made_82 ?_
      refine dj_iload C 7 rfl dX9_made_83 ?_
      refine dj_iconst C dX9_made_85 dc_iconst_3 ?_
      refine dj_irem C dX9_made_86 (by decide) ?_
      refine dj_iconst C dX9_made_87 dc_iconst_1 ?_
      refine dj_isub C dX9_made_88 ?_
      refine dj_iadd C dX9_made_89 ?_
      refine dj_iastn (n := 6) (j := 2) C dz_95 (by decide) (by decide) (by decide) dX9_made_90 (fun S9 => ?_)
      refine dj_aload_n C 0 rfl dX9_made_91 ?_
      refine dj_getr (r := 13) (k2 := 95) C dl_X9_48 rfl dz_82 rfl dX9_made_92 ?_
      refine dj_iconst C dX9_made_95 dc_iconst_0 ?_
      refine dj_ialdn (n := 6) (j := 0) C dz_95 (by decide) (by decide) (by decide) dX9_made_96 ?_
      refine dj_iconst C dX9_made_97 dc_iconst_1 ?_
      refine dj_bipush C dX9_made_98 dc_bipush_9 ?_
      refine dj_callSi (As := [.int (S9.1 95 0), .int 1, .int 9]) C dw_X9_80 (ct_X9_in l g (S9.1 95 0) 1 9 S9) ⟨Nat.le_of_ble_eq_true rfl, Nat.le_of_ble_eq_true rfl⟩ rfl (Nat.le_of_ble_eq_true rfl) rfl dX9_made_100 (fun r10 => ?_)
      refine dj_join 158 (fun t11 : Int32 × Int32 × dk_S => [(0, .ref (g.1 82)), (1, .int x1), (2, .int x2), (3, .int x3), (4, .int x4), (6, .int t11.1), (7, .int t11.2.1), (8, .int x8)]) (fun t11 : Int32 × Int32 × dk_S => []) (fun t11 : Int32 × Int32 × dk_S => t11.2.2) (fun t11 => ?_) (fun k12 hk12 => ?_)
      · refine dj_iinc (lv2 := [(0, .ref (g.1 82)), (1, .int x1), (2, .int x2), (3, .int x3), (4, .int x4), (6, .int t11.1), (7, .int t11.2.1), (8, .int (x8 + 1))]) C 7 rfl [1, 2, 3, 4, 5, 6, 7, 0] dX9_made_158 dc_iconst_1 (by decide) rfl ?_
        refine dj_goto (tgt := 29) C dX9_made_161 (by decide) ?_
        exact ih t11.1 t11.2.1 (x8 + 1) t11.2.2
      · refine dj_if_eq (tgt := 158) C dX9_made_103 (by decide) (fun c13 => ?_) (fun c13 => ?_)
        · exact hk12 (x6, x7, r10.2)
        · refine dj_aload_n C 0 rfl dX9_made_106 ?_
          refine dj_getr (r := 13) (k2 := 95) C dl_X9_48 rfl dz_82 rfl dX9_made_107 ?_
          refine dj_iconst C dX9_made_110 dc_iconst_1 ?_
          refine dj_ialdn (n := 6) (j := 1) C dz_95 (by decide) (by decide) (by decide) dX9_made_111 ?_
          refine dj_iconst C dX9_made_112 dc_iconst_1 ?_
          refine dj_bipush C dX9_made_113 dc_bipush_9 ?_
          refine dj_callSi (As := [.int (r10.2.1 95 1), .int 1, .int 9]) C dw_X9_80 (ct_X9_in l g (r10.2.1 95 1) 1 9 r10.2) ⟨Nat.le_of_ble_eq_true rfl, Nat.le_of_ble_eq_true rfl⟩ rfl (Nat.le_of_ble_eq_true rfl) rfl dX9_made_115 (fun r14 => ?_)
          refine dj_if_eq (tgt := 158) C dX9_made_118 (by decide) (fun c15 => ?_) (fun c15 => ?_)
          · exact hk12 (x6, x7, r14.2)
          · refine dj_aload_n C 0 rfl dX9_made_121 ?_
            refine dj_getr (r := 13) (k2 := 95) C dl_X9_48 rfl dz_82 rfl dX9_made_122 ?_
            refine dj_iconst C dX9_made_125 dc_iconst_2 ?_
            refine dj_ialdn (n := 6) (j := 2) C dz_95 (by decide) (by decide) (by decide) dX9_made_126 ?_
            refine dj_iconst C dX9_made_127 dc_iconst_1 ?_
            refine dj_bipush C dX9_made_128 dc_bipush_9 ?_
            refine dj_callSi (As := [.int (r14.2.1 95 2), .int 1, .int 9]) C dw_X9_80 (ct_X9_in l g (r14.2.1 95 2) 1 9 r14.2) ⟨Nat.le_of_ble_eq_true rfl, Nat.le_of_ble_eq_true rfl⟩ rfl (Nat.le_of_ble_eq_true rfl) rfl dX9_made_130 (fun r16 => ?_)
            refine dj_if_eq (tgt := 158) C dX9_made_133 (by decide) (fun c17 => ?_) (fun c17 => ?_)
            · exact hk12 (x6, x7, r16.2)
            · refine dj_iinc (lv2 := [(0, .ref (g.1 82)), (1, .int x1), (2, .int x2), (3, .int x3), (4, .int x4), (6, .int (x6 + 1)), (7, .int x7), (8, .int x8)]) C 5 rfl [1, 2, 3, 4, 5, 0, 6, 7] dX9_made_136 dc_iconst_1 (by decide) rfl ?_
              refine dj_iload C 6 rfl dX9_made_139 ?_
              refine dj_aload_n C 0 rfl dX9_made_141 ?_
              refine dj_iload C 4 rfl dX9_made_142 ?_
              refine dj_callVi (t := 9) (As := [.int x4]) C dw_X9_245 ⟨_, _, rfl⟩ (by decide) dz_82 (ct_X9_walksWell l g x4 r16.2) ⟨Nat.le_of_ble_eq_true rfl, Nat.le_of_ble_eq_true rfl⟩ rfl (Nat.le_of_ble_eq_true rfl) rfl dX9_made_144 (fun r18 => ?_)
              refine dj_dia 155 [.int x7] (fun y19 => ?_) (fun hd19 => ?_)
              · refine dj_iadd C dX9_made_155 ?_
                refine dj_lti (fun y20 => ?_)
                refine dj_istore (lv2 := [(0, .ref (g.1 82)), (1, .int x1), (2, .int x2), (3, .int x3), (4, .int x4), (6, .int (x6 + 1)), (7, .int y20), (8, .int x8)]) C [1, 2, 3, 4, 5, 6, 0, 7] dX9_made_156 (by decide) rfl ?_
                exact hk12 (x6 + 1, y20, r18.2)
              · refine dj_ltite ?_
                refine dj_if_eq (tgt := 154) C dX9_made_147 (by decide) (fun c21 => ?_) (fun c21 => ?_)
                · refine dj_iconst C dX9_made_154 dc_iconst_0 ?_
                  exact hd19 _
                · refine dj_iconst C dX9_made_150 dc_iconst_1 ?_
                  refine dj_goto (tgt := 155) C dX9_made_151 (by decide) ?_
                  exact hd19 _
set_option maxRecDepth 100000 in
set_option maxHeartbeats 4000000 in
theorem ct_X9_made (l : Launch) (g : dk_G) (x1 : Int32) (x2 : Int32) (x3 : Int32) (x4 : Int32) (S : dk_S)  : dk_M l g yX9_made cX9_made 9 (some .int) 5 108 [.ref (g.1 82), .int x1, .int x2, .int x3, .int x4] S (fX9_made x1 x2 x3 x4 S) dk_qi := by
  refine dk_enter "DuckWalkModel" (by decide +kernel) rfl (Nat.le_of_ble_eq_true rfl) [(0, .ref (g.1 82)), (1, .int x1), (2, .int x2), (3, .int x3), (4, .int x4)] rfl ?_
  intro p e s m args below meth c C
  unfold fX9_made
  refine dj_aload_n C 0 rfl dX9_made_0 ?_
  refine dj_iconst C dX9_made_1 dc_iconst_1 ?_
  refine dj_iload_n C 1 rfl dX9_made_2 ?_
  refine dj_iload_n C 2 rfl dX9_made_3 ?_
  refine dj_iload_n C 3 rfl dX9_made_4 ?_
  refine dj_iload C 4 rfl dX9_made_5 ?_
  refine dj_callVi (t := 9) (As := [.int 1, .int x1, .int x2, .int x3, .int x4]) C dw_X9_238 ⟨_, _, rfl⟩ (by decide) dz_82 (ct_X9_need l g 1 x1 x2 x3 x4 S) ⟨Nat.le_of_ble_eq_true rfl, Nat.le_of_ble_eq_true rfl⟩ rfl (Nat.le_of_ble_eq_true rfl) rfl dX9_made_7 (fun r1 => ?_)
  refine dj_istore (lv2 := [(0, .ref (g.1 82)), (1, .int x1), (2, .int x2), (3, .int x3), (4, .int x4), (5, .int r1.1)]) C [1, 2, 3, 4, 5, 0] dX9_made_10 (by decide) rfl ?_
  refine dj_iload C 5 rfl dX9_made_12 ?_
  refine dj_if_ge (tgt := 20) C dX9_made_14 (by decide) (fun c2 => ?_) (fun c2 => ?_)
  · refine dj_iconst C dX9_made_20 dc_iconst_0 ?_
    refine dj_istore (lv2 := [(0, .ref (g.1 82)), (1, .int x1), (2, .int x2), (3, .int x3), (4, .int x4), (6, .int 0)]) C [1, 2, 3, 4, 5, 0] dX9_made_21 (by decide) rfl ?_
    refine dj_iconst C dX9_made_23 dc_iconst_0 ?_
    refine dj_istore (lv2 := [(0, .ref (g.1 82)), (1, .int x1), (2, .int x2), (3, .int x3), (4, .int x4), (6, .int 0), (7, .int 0)]) C [1, 2, 3, 4, 5, 6, 0] dX9_made_24 (by decide) rfl ?_
    refine dj_iconst C dX9_made_26 dc_iconst_0 ?_
    refine dj_istore (lv2 := [(0, .ref (g.1 82)), (1, .int x1), (2, .int x2), (3, .int x3), (4, .int x4), (6, .int 0), (7, .int 0), (8, .int 0)]) C [1, 2, 3, 4, 5, 6, 7, 0] dX9_made_27 (by decide) rfl ?_
    refine jX9_made_L29 C rfl x1 x2 x3 x4 _ (fun t3 => ?_) dk_FU 0 0 0 r1.2
    · refine dj_aload_n C 0 rfl dX9_made_164 ?_
      refine dj_iload C 2 rfl dX9_made_165 ?_
      refine dj_i2l C dX9_made_167 ?_
      refine dj_iload C 1 rfl dX9_made_168 ?_
      refine dj_i2l C dX9_made_170 ?_
      refine dj_iload C 1 rfl dX9_made_171 ?_
      refine dj_callVi (t := 9) (As := [.long t3.2.1.toInt64, .long t3.1.toInt64, .int t3.1]) C dw_X9_258 ⟨_, _, rfl⟩ (by decide) dz_82 (ct_X9_fraction l g t3.2.1.toInt64 t3.1.toInt64 t3.1 t3.2.2) ⟨Nat.le_of_ble_eq_true rfl, Nat.le_of_ble_eq_true rfl⟩ rfl (Nat.le_of_ble_eq_true rfl) rfl dX9_made_173 (fun r4 => ?_)
      exact dj_iret C dX9_made_176
  · refine dj_iload C 5 rfl dX9_made_17 ?_
    exact dj_iret C dX9_made_19
noncomputable def fX9_would_L99 (x4 : Int32) (x6 : Int32) (x7 : Int32) (x8 : Int32) (x9 : Int32) (x10 : Int32) (kx142 : dk_S → Option (Int32 × dk_S)) : Nat → Int32 → Int32 → dk_S → Option (Int32 × dk_S)
  | 0, _, _, _ => none
  | n + 1, x11, x12, S => if x12 < 0 then kx142 S else dk_lt (fun t17 : Int32 × dk_S => (fX9_would_L99 x4 x6 x7 x8 x9 x10 kx142 n t17.1 (x12 + (-1)) t17.2 : Option (Int32 × dk_S))) (fun k18 => if ((x6 >>> (x12 &&& 31)) &&& 1) = 1 then dk_gd (dk_in x12 6) (dk_lt (dk_si S 95 x12.toNatClampNeg (1 + (x11 - x11 / 9 * 9))) (fun S20 => dk_lt (x11 / 9) (fun y21 : Int32 => k18 (y21, S20)))) else k18 (x11, S))
noncomputable def fX9_would_L85 (x4 : Int32) (x6 : Int32) (x7 : Int32) : Nat → Int32 → Int32 → Int32 → dk_S → Option (Int32 × dk_S)
  | 0, _, _, _, _ => none
  | n + 1, x8, x9, x10, S => if x7 ≤ x10 then (fX9_tells x9 x8 S).bind (fun r8 => some (r8.1, r8.2)) else fX9_would_L99 x4 x6 x7 x8 x9 x10 (fun t9 : dk_S => (fX9_walksWell x4 t9).bind (fun r10 => dk_lt (fun t11 : Int32 × Int32 × dk_S => (fX9_would_L85 x4 x6 x7 n t11.1 t11.2.1 (x10 + 1) t11.2.2 : Option (Int32 × dk_S))) (fun k12 => if r10.1 = 0 then k12 (x8, x9, r10.2) else dk_lt (if x8 = 0 then (((1000 * (r10.2.1 95 0)) + (100 * (r10.2.1 95 1))) + (10 * (r10.2.1 95 2))) + (r10.2.1 95 3) else x9) (fun y14 : Int32 => k12 (x8 + 1, y14, r10.2))))) dk_FU x10 3 S
noncomputable def fX9_would_L52 (x4 : Int32) (x6 : Int32) (kx75 : (Int32 × dk_S) → Option (Int32 × dk_S)) : Nat → Int32 → Int32 → dk_S → Option (Int32 × dk_S)
  | 0, _, _, _ => none
  | n + 1, x7, x8, S => (fX9_bits x6 S).bind (fun r22 => if r22.1 ≤ x8 then kx75 (x7, r22.2) else dk_lt (x7 * 9) (fun y24 : Int32 => fX9_would_L52 x4 x6 kx75 n y24 (x8 + 1) r22.2))
noncomputable def fX9_would (x1 : Int32) (x2 : Int32) (x3 : Int32) (x4 : Int32) (S : dk_S) : Option (Int32 × dk_S) := (fX9_need 1 x1 x2 x3 x4 S).bind (fun r1 => if 0 ≤ r1.1 then dk_gd (dk_in ((7 * x1) + 6) 28) (dk_lt (r1.2.1 90 ((7 * x1) + 6).toNatClampNeg) (fun y3 : Int32 => (fX9_bits y3 r1.2).bind (fun r4 => if r4.1 ≤ 3 then fX9_would_L52 x4 y3 (fun t6 : Int32 × dk_S => fX9_would_L85 x4 y3 t6.1 dk_FU 0 (-9) 0 t6.2) dk_FU 1 0 r4.2 else some ((-6), r4.2)))) else some (r1.1, r1.2))
set_option maxRecDepth 100000 in
set_option maxHeartbeats 4000000 in
theorem jX9_would_L99 {p : Program} {l : Launch} {e : Env} {R : Room} {s : State} {m : MethodId} {args : Array Value} {below : List Frame} {meth : Method} {c : Code} {g : dk_G} (C : dk_C p l e R s m args below meth c g cX9_would "DuckWalkModel" 13 (some .int)) (hR : R = { frames := 5, cells := 0, slots := 0, locals := 108 }) (x4 : Int32) (x6 : Int32) (x7 : Int32) (x8 : Int32) (x9 : Int32) (x10 : Int32) (kx142 : dk_S → Option (Int32 × dk_S))  (hkx142 : ∀ t : dk_S, dk_J p l e R s m args below meth c g 13 dk_qi 142 [(0, .ref (g.1 82)), (4, .int x4), (6, .int x6), (7, .int x7), (8, .int x8), (9, .int x9), (10, .int x10)] [] t (kx142 t) some) : ∀ (n : Nat) (x11 : Int32) (x12 : Int32) (S : dk_S), dk_J p l e R s m args below meth c g 13 dk_qi 99 [(0, .ref (g.1 82)), (4, .int x4), (6, .int x6), (7, .int x7), (8, .int x8), (9, .int x9), (10, .int x10), (11, .int x11), (12, .int x12)] [] S (fX9_would_L99 x4 x6 x7 x8 x9 x10 kx142 n x11 x12 S) some := by
  subst hR
  intro n
  induction n with
  | zero =>
    intro x11 x12 S
    exact dj_none
  | succ n ih =>
    intro x11 x12 S
    rw [fX9_would_L99]
    refine dj_iload C 8 rfl dX9_would_99 ?_
    refine dj_if_lt (tgt := 142) C dX9_would_101 (by decide) (fun c16 => ?_) (fun c16 => ?_)
    · refine dj_sub (lv2 := [(0, .ref (g.1 82)), (4, .int x4), (6, .int x6), (7, .int x7), (8, .int x8), (9, .int x9), (10, .int x10)]) [0, 1, 2, 3, 4, 5, 6] rfl ?_
      exact hkx142 S
    · refine dj_iload C 2 rfl dX9_would_104 ?_
      refine dj_iload C 8 rfl dX9_would_106 ?_
      refine dj_ishr C dX9_would_108 ?_
      refine dj_iconst C dX9_would_109 dc_iconst_1 ?_
      refine dj_iand C dX9_would_110 ?_
      refine dj_iconst C dX9_would_111 dc_iconst_1 ?_
      refine dj_join 136 (fun t17 : Int32 × dk_S => [(0, .ref (g.1 82)), (4, .int x4), (6, .int x6), (7, .int x7), (8, .int x8), (9, .int x9), (10, .int x10), (11, .int t17.1), (12, .int x12)]) (fun t17 : Int32 × dk_S => []) (fun t17 : Int32 × dk_S => t17.2) (fun t17 => ?_) (fun k18 hk18 => ?_)
      · refine dj_iinc (lv2 := [(0, .ref (g.1 82)), (4, .int x4), (6, .int x6), (7, .int x7), (8, .int x8), (9, .int x9), (10, .int x10), (11, .int t17.1), (12, .int (x12 + (-1)))]) C 8 rfl [1, 2, 3, 4, 5, 6, 7, 8, 0] dX9_would_136 dc_iconst_m1 (by decide) rfl ?_
        refine dj_goto (tgt := 99) C dX9_would_139 (by decide) ?_
        exact ih t17.1 (x12 + (-1)) t17.2
      · refine dj_icmp_ne (tgt := 136) C dX9_would_112 (by decide) (fun c19 => ?_) (fun c19 => ?_)
        · exact hk18 (x11, S)
        · refine dj_aload_n C 0 rfl dX9_would_115 ?_
          refine dj_getr (r := 13) (k2 := 95) C dl_X9_48 rfl dz_82 rfl dX9_would_116 ?_
          refine dj_iload C 8 rfl dX9_would_119 ?_
          refine dj_iconst C dX9_would_121 dc_iconst_1 ?_
          refine dj_iload C 7 rfl dX9_would_122 ?_
          refine dj_bipush C dX9_would_124 dc_bipush_9 ?_
          refine dj_irem C dX9_would_126 (by decide) ?_
          refine dj_iadd C dX9_would_127 ?_
          refine dj_iast (n := 6) C dz_95 (by decide) dX9_would_128 (fun S20 => ?_)
          refine dj_iload C 7 rfl dX9_would_129 ?_
          refine dj_bipush C dX9_would_131 dc_bipush_9 ?_
          refine dj_idiv C dX9_would_133 (by decide) ?_
          refine dj_lti (fun y21 => ?_)
          refine dj_istore (lv2 := [(0, .ref (g.1 82)), (4, .int x4), (6, .int x6), (7, .int x7), (8, .int x8), (9, .int x9), (10, .int x10), (11, .int y21), (12, .int x12)]) C [1, 2, 3, 4, 5, 6, 7, 0, 8] dX9_would_134 (by decide) rfl ?_
          exact hk18 (y21, S20)
set_option maxRecDepth 100000 in
set_option maxHeartbeats 4000000 in
theorem jX9_would_L85 {p : Program} {l : Launch} {e : Env} {R : Room} {s : State} {m : MethodId} {args : Array Value} {below : List Frame} {meth : Method} {c : Code} {g : dk_G} (C : dk_C p l e R s m args below meth c g cX9_would "DuckWalkModel" 13 (some .int)) (hR : R = { frames := 5, cells := 0, slots := 0, locals := 108 }) (x4 : Int32) (x6 : Int32) (x7 : Int32)   : ∀ (n : Nat) (x8 : Int32) (x9 : Int32) (x10 : Int32) (S : dk_S), dk_J p l e R s m args below meth c g 13 dk_qi 85 [(0, .ref (g.1 82)), (4, .int x4), (6, .int x6), (7, .int x7), (8, .int x8), (9, .int x9), (10, .int x10)] [] S (fX9_would_L85 x4 x6 x7 n x8 x9 x10 S) some := by
  subst hR
  intro n
  induction n with
  | zero =>
    intro x8 x9 x10 S
    exact dj_none
  | succ n ih =>
    intro x8 x9 x10 S
    rw [fX9_would_L85]
    refine dj_iload C 6 rfl dX9_would_85 ?_
    refine dj_iload C 3 rfl dX9_would_87 ?_
    refine dj_icmp_ge (tgt := 209) C dX9_would_89 (by decide) (fun c7 => ?_) (fun c7 => ?_)
    · refine dj_aload_n C 0 rfl dX9_would_209 ?_
      refine dj_iload C 5 rfl dX9_would_210 ?_
      refine dj_iload C 4 rfl dX9_would_212 ?_
      refine dj_callVi (t := 9) (As := [.int x9, .int x8]) C dw_X9_102 ⟨_, _, rfl⟩ (by decide) dz_82 (ct_X9_tells l g x9 x8 S) ⟨Nat.le_of_ble_eq_true rfl, Nat.le_of_ble_eq_true rfl⟩ rfl (Nat.le_of_ble_eq_true rfl) rfl dX9_would_214 (fun r8 => ?_)
      exact dj_iret C dX9_would_217
    · refine dj_iload C 6 rfl dX9_would_92 ?_
      refine dj_istore (lv2 := [(0, .ref (g.1 82)), (4, .int x4), (6, .int x6), (7, .int x7), (8, .int x8), (9, .int x9), (10, .int x10), (11, .int x10)]) C [1, 2, 3, 4, 5, 6, 7, 0] dX9_would_94 (by decide) rfl ?_
      refine dj_iconst C dX9_would_96 dc_iconst_3 ?_
      refine dj_istore (lv2 := [(0, .ref (g.1 82)), (4, .int x4), (6, .int x6), (7, .int x7), (8, .int x8), (9, .int x9), (10, .int x10), (11, .int x10), (12, .int 3)]) C [1, 2, 3, 4, 5, 6, 7, 8, 0] dX9_would_97 (by decide) rfl ?_
      refine jX9_would_L99 C rfl x4 x6 x7 x8 x9 x10 _ (fun t9 => ?_) dk_FU x10 3 S
      · refine dj_aload_n C 0 rfl dX9_would_142 ?_
        refine dj_iload C 1 rfl dX9_would_143 ?_
        refine dj_callVi (t := 9) (As := [.int x4]) C dw_X9_245 ⟨_, _, rfl⟩ (by decide) dz_82 (ct_X9_walksWell l g x4 t9) ⟨Nat.le_of_ble_eq_true rfl, Nat.le_of_ble_eq_true rfl⟩ rfl (Nat.le_of_ble_eq_true rfl) rfl dX9_would_145 (fun r10 => ?_)
        refine dj_join 203 (fun t11 : Int32 × Int32 × dk_S => [(0, .ref (g.1 82)), (4, .int x4), (6, .int x6), (7, .int x7), (8, .int t11.1), (9, .int t11.2.1), (10, .int x10)]) (fun t11 : Int32 × Int32 × dk_S => []) (fun t11 : Int32 × Int32 × dk_S => t11.2.2) (fun t11 => ?_) (fun k12 hk12 => ?_)
        · refine dj_iinc (lv2 := [(0, .ref (g.1 82)), (4, .int x4), (6, .int x6), (7, .int x7), (8, .int t11.1), (9, .int t11.2.1), (10, .int (x10 + 1))]) C 6 rfl [1, 2, 3, 4, 5, 6, 0] dX9_would_203 dc_iconst_1 (by decide) rfl ?_
          refine dj_goto (tgt := 85) C dX9_would_206 (by decide) ?_
          exact ih t11.1 t11.2.1 (x10 + 1) t11.2.2
        · refine dj_if_eq (tgt := 203) C dX9_would_148 (by decide) (fun c13 => ?_) (fun c13 => ?_)
          · exact hk12 (x8, x9, r10.2)
          · refine dj_iload C 4 rfl dX9_would_151 ?_
            refine dj_dia 198 [] (fun y14 => ?_) (fun hd14 => ?_)
            · refine dj_istore (lv2 := [(0, .ref (g.1 82)), (4, .int x4), (6, .int x6), (7, .int x7), (8, .int x8), (9, .int y14), (10, .int x10)]) C [1, 2, 3, 4, 5, 0, 6] dX9_would_198 (by decide) rfl ?_
              refine dj_iinc (lv2 := [(0, .ref (g.1 82)), (4, .int x4), (6, .int x6), (7, .int x7), (8, .int (x8 + 1)), (9, .int y14), (10, .int x10)]) C 4 rfl [1, 2, 3, 4, 0, 5, 6] dX9_would_200 dc_iconst_1 (by decide) rfl ?_
              exact hk12 (x8 + 1, y14, r10.2)
            · refine dj_ltite ?_
              refine dj_if_ne (tgt := 196) C dX9_would_153 (by decide) (fun c15 => ?_) (fun c15 => ?_)
              · refine dj_iload C 5 rfl dX9_would_196 ?_
                exact hd14 _
              · refine dj_sipush C dX9_would_156 dc_sipush_1000 ?_
                refine dj_aload_n C 0 rfl dX9_would_159 ?_
                refine dj_getr (r := 13) (k2 := 95) C dl_X9_48 rfl dz_82 rfl dX9_would_160 ?_
                refine dj_iconst C dX9_would_163 dc_iconst_0 ?_
                refine dj_ialdn (n := 6) (j := 0) C dz_95 (by decide) (by decide) (by decide) dX9_would_164 ?_
                refine dj_imul C dX9_would_165 ?_
                refine dj_bipush C dX9_would_166 dc_bipush_100 ?_
                refine dj_aload_n C 0 rfl dX9_would_168 ?_
                refine dj_getr (r := 13) (k2 := 95) C dl_X9_48 rfl dz_82 rfl dX9_would_169 ?_
                refine dj_iconst C dX9_would_172 dc_iconst_1 ?_
                refine dj_ialdn (n := 6) (j := 1) C dz_95 (by decide) (by decide) (by decide) dX9_would_173 ?_
                refine dj_imul C dX9_would_174 ?_
                refine dj_iadd C dX9_would_175 ?_
                refine dj_bipush C dX9_would_176 dc_bipush_10 ?_
                refine dj_aload_n C 0 rfl dX9_would_178 ?_
                refine dj_getr (r := 13) (k2 := 95) C dl_X9_48 rfl dz_82 rfl dX9_would_179 ?_
                refine dj_iconst C dX9_would_182 dc_iconst_2 ?_
                refine dj_ialdn (n := 6) (j := 2) C dz_95 (by decide) (by decide) (by decide) dX9_would_183 ?_
                refine dj_imul C dX9_would_184 ?_
                refine dj_iadd C dX9_would_185 ?_
                refine dj_aload_n C 0 rfl dX9_would_186 ?_
                refine dj_getr (r := 13) (k2 := 95) C dl_X9_48 rfl dz_82 rfl dX9_would_187 ?_
                refine dj_iconst C dX9_would_190 dc_iconst_3 ?_
                refine dj_ialdn (n := 6) (j := 3) C dz_95 (by decide) (by decide) (by decide) dX9_would_191 ?_
                refine dj_iadd C dX9_would_192 ?_
                refine dj_goto (tgt := 198) C dX9_would_193 (by decide) ?_
                exact hd14 _
set_option maxRecDepth 100000 in
set_option maxHeartbeats 4000000 in
theorem jX9_would_L52 {p : Program} {l : Launch} {e : Env} {R : Room} {s : State} {m : MethodId} {args : Array Value} {below : List Frame} {meth : Method} {c : Code} {g : dk_G} (C : dk_C p l e R s m args below meth c g cX9_would "DuckWalkModel" 13 (some .int)) (hR : R = { frames := 5, cells := 0, slots := 0, locals := 108 }) (x4 : Int32) (x6 : Int32) (kx75 : (Int32 × dk_S) → Option (Int32 × dk_S))  (hkx75 : ∀ t : Int32 × dk_S, dk_J p l e R s m args below meth c g 13 dk_qi 75 [(0, .ref (g.1 82)), (4, .int x4), (6, .int x6), (7, .int t.1)] [] t.2 (kx75 t) some) : ∀ (n : Nat) (x7 : Int32) (x8 : Int32) (S : dk_S), dk_J p l e R s m args below meth c g 13 dk_qi 52 [(0, .ref (g.1 82)), (4, .int x4), (6, .int x6), (7, .int x7), (8, .int x8)] [] S (fX9_would_L52 x4 x6 kx75 n x7 x8 S) some := by
  subst hR
  intro n
  induction n with
  | zero =>
    intro x7 x8 S
    exact dj_none
  | succ n ih =>
    intro x7 x8 S
    rw [fX9_would_L52]
    refine dj_iload C 4 rfl dX9_would_52 ?_
    refine dj_iload C 2 rfl dX9_would_54 ?_
    refine dj_callSi (As := [.int x6]) C dw_X9_142 (ct_X9_bits l g x6 S) ⟨Nat.le_of_ble_eq_true rfl, Nat.le_of_ble_eq_true rfl⟩ rfl (Nat.le_of_ble_eq_true rfl) rfl dX9_would_56 (fun r22 => ?_)
    refine dj_icmp_ge (tgt := 75) C dX9_would_59 (by decide) (fun c23 => ?_) (fun c23 => ?_)
    · refine dj_sub (lv2 := [(0, .ref (g.1 82)), (4, .int x4), (6, .int x6), (7, .int x7)]) [0, 1, 2, 3] rfl ?_
      exact hkx75 (x7, r22.2)
    · refine dj_iload C 3 rfl dX9_would_62 ?_
      refine dj_bipush C dX9_would_64 dc_bipush_9 ?_
      refine dj_imul C dX9_would_66 ?_
      refine dj_lti (fun y24 => ?_)
      refine dj_istore (lv2 := [(0, .ref (g.1 82)), (4, .int x4), (6, .int x6), (7, .int y24), (8, .int x8)]) C [1, 2, 3, 0, 4] dX9_would_67 (by decide) rfl ?_
      refine dj_iinc (lv2 := [(0, .ref (g.1 82)), (4, .int x4), (6, .int x6), (7, .int y24), (8, .int (x8 + 1))]) C 4 rfl [1, 2, 3, 4, 0] dX9_would_69 dc_iconst_1 (by decide) rfl ?_
      refine dj_goto (tgt := 52) C dX9_would_72 (by decide) ?_
      exact ih y24 (x8 + 1) r22.2
set_option maxRecDepth 100000 in
set_option maxHeartbeats 4000000 in
theorem ct_X9_would (l : Launch) (g : dk_G) (x1 : Int32) (x2 : Int32) (x3 : Int32) (x4 : Int32) (S : dk_S)  : dk_M l g yX9_would cX9_would 13 (some .int) 5 108 [.ref (g.1 82), .int x1, .int x2, .int x3, .int x4] S (fX9_would x1 x2 x3 x4 S) dk_qi := by
  refine dk_enter "DuckWalkModel" (by decide +kernel) rfl (Nat.le_of_ble_eq_true rfl) [(0, .ref (g.1 82)), (1, .int x1), (2, .int x2), (3, .int x3), (4, .int x4)] rfl ?_
  intro p e s m args below meth c C
  unfold fX9_would
  refine dj_aload_n C 0 rfl dX9_would_0 ?_
  refine dj_iconst C dX9_would_1 dc_iconst_1 ?_
  refine dj_iload_n C 1 rfl dX9_would_2 ?_
  refine dj_iload_n C 2 rfl dX9_would_3 ?_
  refine dj_iload_n C 3 rfl dX9_would_4 ?_
  refine dj_iload C 4 rfl dX9_would_5 ?_
  refine dj_callVi (t := 9) (As := [.int 1, .int x1, .int x2, .int x3, .int x4]) C dw_X9_238 ⟨_, _, rfl⟩ (by decide) dz_82 (ct_X9_need l g 1 x1 x2 x3 x4 S) ⟨Nat.le_of_ble_eq_true rfl, Nat.le_of_ble_eq_true rfl⟩ rfl (Nat.le_of_ble_eq_true rfl) rfl dX9_would_7 (fun r1 => ?_)
  refine dj_istore (lv2 := [(0, .ref (g.1 82)), (1, .int x1), (4, .int x4), (5, .int r1.1)]) C [1, 2, 5, 0] dX9_would_10 (by decide) rfl ?_
  refine dj_iload C 3 rfl dX9_would_12 ?_
  refine dj_if_ge (tgt := 20) C dX9_would_14 (by decide) (fun c2 => ?_) (fun c2 => ?_)
  · refine dj_aload_n C 0 rfl dX9_would_20 ?_
    refine dj_getr (r := 8) (k2 := 90) C dl_X9_33 rfl dz_82 rfl dX9_would_21 ?_
    refine dj_bipush C dX9_would_24 dc_bipush_7 ?_
    refine dj_iload_n C 1 rfl dX9_would_26 ?_
    refine dj_imul C dX9_would_27 ?_
    refine dj_bipush C dX9_would_28 dc_bipush_6 ?_
    refine dj_iadd C dX9_would_30 ?_
    refine dj_iald (n := 28) C dz_90 (by decide) dX9_would_31 ?_
    refine dj_lti (fun y3 => ?_)
    refine dj_istore (lv2 := [(0, .ref (g.1 82)), (4, .int x4), (6, .int y3)]) C [1, 3, 0] dX9_would_32 (by decide) rfl ?_
    refine dj_iload C 2 rfl dX9_would_34 ?_
    refine dj_callSi (As := [.int y3]) C dw_X9_142 (ct_X9_bits l g y3 r1.2) ⟨Nat.le_of_ble_eq_true rfl, Nat.le_of_ble_eq_true rfl⟩ rfl (Nat.le_of_ble_eq_true rfl) rfl dX9_would_36 (fun r4 => ?_)
    refine dj_iconst C dX9_would_39 dc_iconst_3 ?_
    refine dj_icmp_le (tgt := 46) C dX9_would_40 (by decide) (fun c5 => ?_) (fun c5 => ?_)
    · refine dj_iconst C dX9_would_46 dc_iconst_1 ?_
      refine dj_istore (lv2 := [(0, .ref (g.1 82)), (4, .int x4), (6, .int y3), (7, .int 1)]) C [1, 2, 3, 0] dX9_would_47 (by decide) rfl ?_
      refine dj_iconst C dX9_would_49 dc_iconst_0 ?_
      refine dj_istore (lv2 := [(0, .ref (g.1 82)), (4, .int x4), (6, .int y3), (7, .int 1), (8, .int 0)]) C [1, 2, 3, 4, 0] dX9_would_50 (by decide) rfl ?_
      refine jX9_would_L52 C rfl x4 y3 _ (fun t6 => ?_) dk_FU 1 0 r4.2
      · refine dj_iconst C dX9_would_75 dc_iconst_0 ?_
        refine dj_istore (lv2 := [(0, .ref (g.1 82)), (4, .int x4), (6, .int y3), (7, .int t6.1), (8, .int 0)]) C [1, 2, 3, 4, 0] dX9_would_76 (by decide) rfl ?_
        refine dj_bipush C dX9_would_78 dc_bipush_m9 ?_
        refine dj_istore (lv2 := [(0, .ref (g.1 82)), (4, .int x4), (6, .int y3), (7, .int t6.1), (8, .int 0), (9, .int (-9))]) C [1, 2, 3, 4, 5, 0] dX9_would_80 (by decide) rfl ?_
        refine dj_iconst C dX9_would_82 dc_iconst_0 ?_
        refine dj_istore (lv2 := [(0, .ref (g.1 82)), (4, .int x4), (6, .int y3), (7, .int t6.1), (8, .int 0), (9, .int (-9)), (10, .int 0)]) C [1, 2, 3, 4, 5, 6, 0] dX9_would_83 (by decide) rfl ?_
        refine jX9_would_L85 C rfl x4 y3 t6.1 dk_FU 0 (-9) 0 t6.2
    · refine dj_bipush C dX9_would_43 dc_bipush_m6 ?_
      exact dj_iret C dX9_would_45
  · refine dj_iload C 3 rfl dX9_would_17 ?_
    exact dj_iret C dX9_would_19
noncomputable def fX9_yard_L38 (x5 : Int32) (kx68 : (Int32 × dk_S) → Option (Int32 × dk_S)) : Nat → Int32 → dk_S → Option (Int32 × dk_S)
  | 0, _, _ => none
  | n + 1, x7, S => if 400 ≤ x7 then some ((-9), S) else if (S.1 82 27) = 0 then (fX9_steps x7 S).bind (fun r9 => if (r9.1 82 29) < x5 then fX9_yard_L38 x5 kx68 n (x7 + 1) r9 else kx68 (x7, r9)) else some ((-9), S)
noncomputable def fX9_yard (x1 : Int32) (x2 : Int32) (x3 : Int32) (x4 : Int32) (x5 : Int32) (S : dk_S) : Option (Int32 × dk_S) := (fX9_in x5 1 2000 S).bind (fun r1 => (fX9_need r1.1 x1 x2 x3 x4 r1.2).bind (fun r2 => if 0 ≤ r2.1 then (fX9_starts x4 0 r2.2).bind (fun r4 => fX9_yard_L38 x5 (fun t5 : Int32 × dk_S => (fX9_tells (t5.2.1 82 28) (t5.1 + 1) t5.2).bind (fun r6 => some (r6.1, r6.2))) dk_FU 0 r4) else some (r2.1, r2.2)))
set_option maxRecDepth 100000 in
set_option maxHeartbeats 4000000 in
theorem jX9_yard_L38 {p : Program} {l : Launch} {e : Env} {R : Room} {s : State} {m : MethodId} {args : Array Value} {below : List Frame} {meth : Method} {c : Code} {g : dk_G} (C : dk_C p l e R s m args below meth c g cX9_yard "DuckWalkModel" 8 (some .int)) (hR : R = { frames := 4, cells := 0, slots := 0, locals := 91 }) (x5 : Int32) (kx68 : (Int32 × dk_S) → Option (Int32 × dk_S))  (hkx68 : ∀ t : Int32 × dk_S, dk_J p l e R s m args below meth c g 8 dk_qi 68 [(0, .ref (g.1 82)), (7, .int t.1)] [] t.2 (kx68 t) some) : ∀ (n : Nat) (x7 : Int32) (S : dk_S), dk_J p l e R s m args below meth c g 8 dk_qi 38 [(0, .ref (g.1 82)), (5, .int x5), (7, .int x7)] [] S (fX9_yard_L38 x5 kx68 n x7 S) some := by
  subst hR
  intro n
  induction n with
  | zero =>
    intro x7 S
    exact dj_none
  | succ n ih =>
    intro x7 S
    rw [fX9_yard_L38]
    refine dj_iload C 2 rfl dX9_yard_38 ?_
    refine dj_sipush C dX9_yard_40 dc_sipush_400 ?_
    refine dj_icmp_ge (tgt := 87) C dX9_yard_43 (by decide) (fun c7 => ?_) (fun c7 => ?_)
    · refine dj_bipush C dX9_yard_87 dc_bipush_m9 ?_
      exact dj_iret C dX9_yard_89
    · refine dj_aload_n C 0 rfl dX9_yard_46 ?_
      refine dj_geti C dl_X9_160 rfl dz_82 dX9_yard_47 ?_
      refine dj_if_ne (tgt := 87) C dX9_yard_50 (by decide) (fun c8 => ?_) (fun c8 => ?_)
      · refine dj_bipush C dX9_yard_87 dc_bipush_m9 ?_
        exact dj_iret C dX9_yard_89
      · refine dj_aload_n C 0 rfl dX9_yard_53 ?_
        refine dj_iload C 2 rfl dX9_yard_54 ?_
        refine dj_callVv (t := 9) (As := [.int x7]) C dw_X9_206 ⟨_, _, rfl⟩ (by decide) dz_82 (ct_X9_steps l g x7 S) ⟨Nat.le_of_ble_eq_true rfl, Nat.le_of_ble_eq_true rfl⟩ rfl (Nat.le_of_ble_eq_true rfl) rfl dX9_yard_56 (fun r9 => ?_)
        refine dj_aload_n C 0 rfl dX9_yard_59 ?_
        refine dj_geti C dl_X9_166 rfl dz_82 dX9_yard_60 ?_
        refine dj_iload C 1 rfl dX9_yard_63 ?_
        refine dj_icmp_lt (tgt := 81) C dX9_yard_65 (by decide) (fun c10 => ?_) (fun c10 => ?_)
        · refine dj_iinc (lv2 := [(0, .ref (g.1 82)), (5, .int x5), (7, .int (x7 + 1))]) C 2 rfl [1, 2, 0] dX9_yard_81 dc_iconst_1 (by decide) rfl ?_
          refine dj_goto (tgt := 38) C dX9_yard_84 (by decide) ?_
          exact ih (x7 + 1) r9
        · refine dj_sub (lv2 := [(0, .ref (g.1 82)), (7, .int x7)]) [0, 2] rfl ?_
          exact hkx68 (x7, r9)
set_option maxRecDepth 100000 in
set_option maxHeartbeats 4000000 in
theorem ct_X9_yard (l : Launch) (g : dk_G) (x1 : Int32) (x2 : Int32) (x3 : Int32) (x4 : Int32) (x5 : Int32) (S : dk_S)  : dk_M l g yX9_yard cX9_yard 8 (some .int) 4 91 [.ref (g.1 82), .int x1, .int x2, .int x3, .int x4, .int x5] S (fX9_yard x1 x2 x3 x4 x5 S) dk_qi := by
  refine dk_enter "DuckWalkModel" (by decide +kernel) rfl (Nat.le_of_ble_eq_true rfl) [(0, .ref (g.1 82)), (1, .int x1), (2, .int x2), (3, .int x3), (4, .int x4), (5, .int x5)] rfl ?_
  intro p e s m args below meth c C
  unfold fX9_yard
  refine dj_aload_n C 0 rfl dX9_yard_0 ?_
  refine dj_iload C 5 rfl dX9_yard_1 ?_
  refine dj_iconst C dX9_yard_3 dc_iconst_1 ?_
  refine dj_sipush C dX9_yard_4 dc_sipush_2000 ?_
  refine dj_callSi (As := [.int x5, .int 1, .int 2000]) C dw_X9_80 (ct_X9_in l g x5 1 2000 S) ⟨Nat.le_of_ble_eq_true rfl, Nat.le_of_ble_eq_true rfl⟩ rfl (Nat.le_of_ble_eq_true rfl) rfl dX9_yard_7 (fun r1 => ?_)
  refine dj_iload_n C 1 rfl dX9_yard_10 ?_
  refine dj_iload_n C 2 rfl dX9_yard_11 ?_
  refine dj_iload_n C 3 rfl dX9_yard_12 ?_
  refine dj_iload C 4 rfl dX9_yard_13 ?_
  refine dj_callVi (t := 9) (As := [.int r1.1, .int x1, .int x2, .int x3, .int x4]) C dw_X9_238 ⟨_, _, rfl⟩ (by decide) dz_82 (ct_X9_need l g r1.1 x1 x2 x3 x4 r1.2) ⟨Nat.le_of_ble_eq_true rfl, Nat.le_of_ble_eq_true rfl⟩ rfl (Nat.le_of_ble_eq_true rfl) rfl dX9_yard_15 (fun r2 => ?_)
  refine dj_istore (lv2 := [(0, .ref (g.1 82)), (4, .int x4), (5, .int x5), (6, .int r2.1)]) C [1, 5, 6, 0] dX9_yard_18 (by decide) rfl ?_
  refine dj_iload C 3 rfl dX9_yard_20 ?_
  refine dj_if_ge (tgt := 28) C dX9_yard_22 (by decide) (fun c3 => ?_) (fun c3 => ?_)
  · refine dj_aload_n C 0 rfl dX9_yard_28 ?_
    refine dj_iload C 1 rfl dX9_yard_29 ?_
    refine dj_iconst C dX9_yard_31 dc_iconst_0 ?_
    refine dj_callVv (t := 9) (As := [.int x4, .int 0]) C dw_X9_183 ⟨_, _, rfl⟩ (by decide) dz_82 (ct_X9_starts l g x4 0 r2.2) ⟨Nat.le_of_ble_eq_true rfl, Nat.le_of_ble_eq_true rfl⟩ rfl (Nat.le_of_ble_eq_true rfl) rfl dX9_yard_32 (fun r4 => ?_)
    refine dj_iconst C dX9_yard_35 dc_iconst_0 ?_
    refine dj_istore (lv2 := [(0, .ref (g.1 82)), (5, .int x5), (7, .int 0)]) C [1, 3, 0] dX9_yard_36 (by decide) rfl ?_
    refine jX9_yard_L38 C rfl x5 _ (fun t5 => ?_) dk_FU 0 r4
    · refine dj_aload_n C 0 rfl dX9_yard_68 ?_
      refine dj_aload_n C 0 rfl dX9_yard_69 ?_
      refine dj_geti C dl_X9_163 rfl dz_82 dX9_yard_70 ?_
      refine dj_iload C 1 rfl dX9_yard_73 ?_
      refine dj_iconst C dX9_yard_75 dc_iconst_1 ?_
      refine dj_iadd C dX9_yard_76 ?_
      refine dj_callVi (t := 9) (As := [.int (t5.2.1 82 28), .int (t5.1 + 1)]) C dw_X9_102 ⟨_, _, rfl⟩ (by decide) dz_82 (ct_X9_tells l g (t5.2.1 82 28) (t5.1 + 1) t5.2) ⟨Nat.le_of_ble_eq_true rfl, Nat.le_of_ble_eq_true rfl⟩ rfl (Nat.le_of_ble_eq_true rfl) rfl dX9_yard_77 (fun r6 => ?_)
      exact dj_iret C dX9_yard_80
  · refine dj_iload C 3 rfl dX9_yard_25 ?_
    exact dj_iret C dX9_yard_27
noncomputable def fX9_push_L31 (x3 : Int32) (kx111 : (Int32 × Int32 × dk_S) → Option (Int32 × dk_S)) : Nat → Int32 → Int32 → Int32 → dk_S → Option (Int32 × dk_S)
  | 0, _, _, _, _ => none
  | n + 1, x5, x6, x7, S => if x7 < 1 then kx111 (x5, x6, S) else dk_lt (dk_si S 96 0 x7) (fun S7 => dk_lt (dk_si S7 96 1 x7) (fun S8 => (fX9_walksWell x3 S8).bind (fun r9 => dk_lt (if r9.1 = 0 then x5 else x7) (fun y10 : Int32 => dk_lt (dk_si r9.2 96 1 0) (fun S11 => (fX9_goingOf x3 S11).bind (fun r12 => dk_lt (if r12.1 = 4 then x6 else if r12.1 = 5 then x6 else x7) (fun y13 : Int32 => fX9_push_L31 x3 kx111 n y10 y13 (x7 + (-1)) r12.2)))))))
noncomputable def fX9_push (x1 : Int32) (x2 : Int32) (x3 : Int32) (S : dk_S) : Option (Int32 × dk_S) := (fX9_need 1 x1 x2 0 x3 S).bind (fun r1 => if 0 ≤ r1.1 then fX9_push_L31 x3 (fun t3 : Int32 × Int32 × dk_S => if t3.1 = (-9) then some ((-9), t3.2.2) else (fX9_tells t3.2.1 t3.1 t3.2.2).bind (fun r5 => some (r5.1, r5.2))) dk_FU (-9) (-9) 99 r1.2 else some (r1.1, r1.2))
set_option maxRecDepth 100000 in
set_option maxHeartbeats 4000000 in
theorem jX9_push_L31 {p : Program} {l : Launch} {e : Env} {R : Room} {s : State} {m : MethodId} {args : Array Value} {below : List Frame} {meth : Method} {c : Code} {g : dk_G} (C : dk_C p l e R s m args below meth c g cX9_push "DuckWalkModel" 9 (some .int)) (hR : R = { frames := 5, cells := 0, slots := 0, locals := 108 }) (x3 : Int32) (kx111 : (Int32 × Int32 × dk_S) → Option (Int32 × dk_S))  (hkx111 : ∀ t : Int32 × Int32 × dk_S, dk_J p l e R s m args below meth c g 9 dk_qi 111 [(0, .ref (g.1 82)), (5, .int t.1), (6, .int t.2.1)] [] t.2.2 (kx111 t) some) : ∀ (n : Nat) (x5 : Int32) (x6 : Int32) (x7 : Int32) (S : dk_S), dk_J p l e R s m args below meth c g 9 dk_qi 31 [(0, .ref (g.1 82)), (3, .int x3), (5, .int x5), (6, .int x6), (7, .int x7)] [] S (fX9_push_L31 x3 kx111 n x5 x6 x7 S) some := by
  subst hR
  intro n
  induction n with
  | zero =>
    intro x5 x6 x7 S
    exact dj_none
  | succ n ih =>
    intro x5 x6 x7 S
    rw [fX9_push_L31]
    refine dj_iload C 4 rfl dX9_push_31 ?_
    refine dj_iconst C dX9_push_33 dc_iconst_1 ?_
    refine dj_icmp_lt (tgt := 111) C dX9_push_34 (by decide) (fun c6 => ?_) (fun c6 => ?_)
    · refine dj_sub (lv2 := [(0, .ref (g.1 82)), (5, .int x5), (6, .int x6)]) [0, 2, 3] rfl ?_
      exact hkx111 (x5, x6, S)
    · refine dj_aload_n C 0 rfl dX9_push_37 ?_
      refine dj_getr (r := 14) (k2 := 96) C dl_X9_51 rfl dz_82 rfl dX9_push_38 ?_
      refine dj_iconst C dX9_push_41 dc_iconst_0 ?_
      refine dj_iload C 4 rfl dX9_push_42 ?_
      refine dj_iastn (n := 2) (j := 0) C dz_96 (by decide) (by decide) (by decide) dX9_push_44 (fun S7 => ?_)
      refine dj_aload_n C 0 rfl dX9_push_45 ?_
      refine dj_getr (r := 14) (k2 := 96) C dl_X9_51 rfl dz_82 rfl dX9_push_46 ?_
      refine dj_iconst C dX9_push_49 dc_iconst_1 ?_
      refine dj_iload C 4 rfl dX9_push_50 ?_
      refine dj_iastn (n := 2) (j := 1) C dz_96 (by decide) (by decide) (by decide) dX9_push_52 (fun S8 => ?_)
      refine dj_aload_n C 0 rfl dX9_push_53 ?_
      refine dj_iload_n C 1 rfl dX9_push_54 ?_
      refine dj_callVi (t := 9) (As := [.int x3]) C dw_X9_245 ⟨_, _, rfl⟩ (by decide) dz_82 (ct_X9_walksWell l g x3 S8) ⟨Nat.le_of_ble_eq_true rfl, Nat.le_of_ble_eq_true rfl⟩ rfl (Nat.le_of_ble_eq_true rfl) rfl dX9_push_55 (fun r9 => ?_)
      refine dj_dia 68 [] (fun y10 => ?_) (fun hd10 => ?_)
      · refine dj_istore (lv2 := [(0, .ref (g.1 82)), (3, .int x3), (5, .int y10), (6, .int x6), (7, .int x7)]) C [1, 2, 0, 3, 4] dX9_push_68 (by decide) rfl ?_
        refine dj_aload_n C 0 rfl dX9_push_70 ?_
        refine dj_getr (r := 14) (k2 := 96) C dl_X9_51 rfl dz_82 rfl dX9_push_71 ?_
        refine dj_iconst C dX9_push_74 dc_iconst_1 ?_
        refine dj_iconst C dX9_push_75 dc_iconst_0 ?_
        refine dj_iastn (n := 2) (j := 1) C dz_96 (by decide) (by decide) (by decide) dX9_push_76 (fun S11 => ?_)
        refine dj_aload_n C 0 rfl dX9_push_77 ?_
        refine dj_iload_n C 1 rfl dX9_push_78 ?_
        refine dj_callVi (t := 9) (As := [.int x3]) C dw_X9_224 ⟨_, _, rfl⟩ (by decide) dz_82 (ct_X9_goingOf l g x3 S11) ⟨Nat.le_of_ble_eq_true rfl, Nat.le_of_ble_eq_true rfl⟩ rfl (Nat.le_of_ble_eq_true rfl) rfl dX9_push_79 (fun r12 => ?_)
        refine dj_istore (lv2 := [(0, .ref (g.1 82)), (3, .int x3), (5, .int y10), (6, .int x6), (7, .int x7), (8, .int r12.1)]) C [1, 2, 3, 4, 5, 0] dX9_push_82 (by decide) rfl ?_
        refine dj_iload C 5 rfl dX9_push_84 ?_
        refine dj_iconst C dX9_push_86 dc_iconst_4 ?_
        refine dj_dia 103 [] (fun y13 => ?_) (fun hd13 => ?_)
        · refine dj_istore (lv2 := [(0, .ref (g.1 82)), (3, .int x3), (5, .int y10), (6, .int y13), (7, .int x7)]) C [1, 2, 3, 0, 4] dX9_push_103 (by decide) rfl ?_
          refine dj_iinc (lv2 := [(0, .ref (g.1 82)), (3, .int x3), (5, .int y10), (6, .int y13), (7, .int (x7 + (-1)))]) C 4 rfl [1, 2, 3, 4, 0] dX9_push_105 dc_iconst_m1 (by decide) rfl ?_
          refine dj_goto (tgt := 31) C dX9_push_108 (by decide) ?_
          exact ih y10 y13 (x7 + (-1)) r12.2
        · refine dj_ltite ?_
          refine dj_icmp_eq (tgt := 101) C dX9_push_87 (by decide) (fun c14 => ?_) (fun c14 => ?_)
          · refine dj_iload C 3 rfl dX9_push_101 ?_
            exact hd13 _
          · refine dj_iload C 5 rfl dX9_push_90 ?_
            refine dj_iconst C dX9_push_92 dc_iconst_5 ?_
            refine dj_ltite ?_
            refine dj_icmp_eq (tgt := 101) C dX9_push_93 (by decide) (fun c15 => ?_) (fun c15 => ?_)
            · refine dj_iload C 3 rfl dX9_push_101 ?_
              exact hd13 _
            · refine dj_iload C 4 rfl dX9_push_96 ?_
              refine dj_goto (tgt := 103) C dX9_push_98 (by decide) ?_
              exact hd13 _
      · refine dj_ltite ?_
        refine dj_if_eq (tgt := 66) C dX9_push_58 (by decide) (fun c16 => ?_) (fun c16 => ?_)
        · refine dj_iload C 2 rfl dX9_push_66 ?_
          exact hd10 _
        · refine dj_iload C 4 rfl dX9_push_61 ?_
          refine dj_goto (tgt := 68) C dX9_push_63 (by decide) ?_
          exact hd10 _
set_option maxRecDepth 100000 in
set_option maxHeartbeats 4000000 in
theorem ct_X9_push (l : Launch) (g : dk_G) (x1 : Int32) (x2 : Int32) (x3 : Int32) (S : dk_S)  : dk_M l g yX9_push cX9_push 9 (some .int) 5 108 [.ref (g.1 82), .int x1, .int x2, .int x3] S (fX9_push x1 x2 x3 S) dk_qi := by
  refine dk_enter "DuckWalkModel" (by decide +kernel) rfl (Nat.le_of_ble_eq_true rfl) [(0, .ref (g.1 82)), (1, .int x1), (2, .int x2), (3, .int x3)] rfl ?_
  intro p e s m args below meth c C
  unfold fX9_push
  refine dj_aload_n C 0 rfl dX9_push_0 ?_
  refine dj_iconst C dX9_push_1 dc_iconst_1 ?_
  refine dj_iload_n C 1 rfl dX9_push_2 ?_
  refine dj_iload_n C 2 rfl dX9_push_3 ?_
  refine dj_iconst C dX9_push_4 dc_iconst_0 ?_
  refine dj_iload_n C 3 rfl dX9_push_5 ?_
  refine dj_callVi (t := 9) (As := [.int 1, .int x1, .int x2, .int 0, .int x3]) C dw_X9_238 ⟨_, _, rfl⟩ (by decide) dz_82 (ct_X9_need l g 1 x1 x2 0 x3 S) ⟨Nat.le_of_ble_eq_true rfl, Nat.le_of_ble_eq_true rfl⟩ rfl (Nat.le_of_ble_eq_true rfl) rfl dX9_push_6 (fun r1 => ?_)
  refine dj_istore (lv2 := [(0, .ref (g.1 82)), (3, .int x3), (4, .int r1.1)]) C [1, 4, 0] dX9_push_9 (by decide) rfl ?_
  refine dj_iload C 2 rfl dX9_push_11 ?_
  refine dj_if_ge (tgt := 19) C dX9_push_13 (by decide) (fun c2 => ?_) (fun c2 => ?_)
  · refine dj_bipush C dX9_push_19 dc_bipush_m9 ?_
    refine dj_istore (lv2 := [(0, .ref (g.1 82)), (3, .int x3), (5, .int (-9))]) C [1, 2, 0] dX9_push_21 (by decide) rfl ?_
    refine dj_bipush C dX9_push_23 dc_bipush_m9 ?_
    refine dj_istore (lv2 := [(0, .ref (g.1 82)), (3, .int x3), (5, .int (-9)), (6, .int (-9))]) C [1, 2, 3, 0] dX9_push_25 (by decide) rfl ?_
    refine dj_bipush C dX9_push_27 dc_bipush_99 ?_
    refine dj_istore (lv2 := [(0, .ref (g.1 82)), (3, .int x3), (5, .int (-9)), (6, .int (-9)), (7, .int 99)]) C [1, 2, 3, 4, 0] dX9_push_29 (by decide) rfl ?_
    refine jX9_push_L31 C rfl x3 _ (fun t3 => ?_) dk_FU (-9) (-9) 99 r1.2
    · refine dj_iload C 1 rfl dX9_push_111 ?_
      refine dj_bipush C dX9_push_113 dc_bipush_m9 ?_
      refine dj_icmp_ne (tgt := 123) C dX9_push_115 (by decide) (fun c4 => ?_) (fun c4 => ?_)
      · refine dj_aload_n C 0 rfl dX9_push_123 ?_
        refine dj_iload C 2 rfl dX9_push_124 ?_
        refine dj_iload C 1 rfl dX9_push_126 ?_
        refine dj_callVi (t := 9) (As := [.int t3.2.1, .int t3.1]) C dw_X9_102 ⟨_, _, rfl⟩ (by decide) dz_82 (ct_X9_tells l g t3.2.1 t3.1 t3.2.2) ⟨Nat.le_of_ble_eq_true rfl, Nat.le_of_ble_eq_true rfl⟩ rfl (Nat.le_of_ble_eq_true rfl) rfl dX9_push_128 (fun r5 => ?_)
        exact dj_iret C dX9_push_131
      · refine dj_bipush C dX9_push_118 dc_bipush_m9 ?_
        refine dj_goto (tgt := 131) C dX9_push_120 (by decide) ?_
        exact dj_iret C dX9_push_131
  · refine dj_iload C 2 rfl dX9_push_16 ?_
    exact dj_iret C dX9_push_18
noncomputable def fX9_bears_L62 (x4 : Int32) (x7 : Int32) (x8 : Int32) (kx89 : dk_S → Option (Int32 × dk_S)) : Nat → Int32 → dk_S → Option (Int32 × dk_S)
  | 0, _, _ => none
  | n + 1, x9, S => if 200 ≤ x9 then kx89 S else if (S.1 82 27) = 0 then (fX9_steps x9 S).bind (fun r18 => fX9_bears_L62 x4 x7 x8 kx89 n (x9 + 1) r18) else kx89 S
noncomputable def fX9_bears_L41 (x4 : Int32) : Nat → Int32 → Int32 → dk_S → Option (Int32 × dk_S)
  | 0, _, _, _ => none
  | n + 1, x7, x8, S => if x8 < 0 then some (x7, S) else dk_lt (dk_si S 82 24 x8) (fun S6 => (fX9_starts x4 0 S6).bind (fun r7 => fX9_bears_L62 x4 x7 x8 (fun t8 : dk_S => dk_lt (fun t9 : dk_S => (dk_lt (if (t9.1 82 27) = 0 then if x7 = (-9) then x8 else x7 else x7) (fun y11 : Int32 => fX9_bears_L41 x4 n y11 (x8 + (-1)) t9) : Option (Int32 × dk_S))) (fun k10 => if x8 = 0 then if (t8.1 82 27) = 0 then k10 t8 else some ((-9), t8) else k10 t8)) dk_FU 0 r7))
noncomputable def fX9_bears (x1 : Int32) (x2 : Int32) (x3 : Int32) (x4 : Int32) (x5 : Int32) (S : dk_S) : Option (Int32 × dk_S) := (fX9_in x5 0 99 S).bind (fun r1 => (fX9_need r1.1 x1 x2 x3 x4 r1.2).bind (fun r2 => if 0 ≤ r2.1 then dk_lt (dk_si r2.2 82 23 x5) (fun S4 => fX9_bears_L41 x4 dk_FU (-9) 99 S4) else some (r2.1, r2.2)))
set_option maxRecDepth 100000 in
set_option maxHeartbeats 4000000 in
theorem jX9_bears_L62 {p : Program} {l : Launch} {e : Env} {R : Room} {s : State} {m : MethodId} {args : Array Value} {below : List Frame} {meth : Method} {c : Code} {g : dk_G} (C : dk_C p l e R s m args below meth c g cX9_bears "DuckWalkModel" 10 (some .int)) (hR : R = { frames := 4, cells := 0, slots := 0, locals := 91 }) (x4 : Int32) (x7 : Int32) (x8 : Int32) (kx89 : dk_S → Option (Int32 × dk_S))  (hkx89 : ∀ t : dk_S, dk_J p l e R s m args below meth c g 10 dk_qi 89 [(0, .ref (g.1 82)), (4, .int x4), (7, .int x7), (8, .int x8)] [] t (kx89 t) some) : ∀ (n : Nat) (x9 : Int32) (S : dk_S), dk_J p l e R s m args below meth c g 10 dk_qi 62 [(0, .ref (g.1 82)), (4, .int x4), (7, .int x7), (8, .int x8), (9, .int x9)] [] S (fX9_bears_L62 x4 x7 x8 kx89 n x9 S) some := by
  subst hR
  intro n
  induction n with
  | zero =>
    intro x9 S
    exact dj_none
  | succ n ih =>
    intro x9 S
    rw [fX9_bears_L62]
    refine dj_iload C 4 rfl dX9_bears_62 ?_
    refine dj_sipush C dX9_bears_64 dc_sipush_200 ?_
    refine dj_icmp_ge (tgt := 89) C dX9_bears_67 (by decide) (fun c16 => ?_) (fun c16 => ?_)
    · refine dj_sub (lv2 := [(0, .ref (g.1 82)), (4, .int x4), (7, .int x7), (8, .int x8)]) [0, 1, 2, 3] rfl ?_
      exact hkx89 S
    · refine dj_aload_n C 0 rfl dX9_bears_70 ?_
      refine dj_geti C dl_X9_160 rfl dz_82 dX9_bears_71 ?_
      refine dj_if_ne (tgt := 89) C dX9_bears_74 (by decide) (fun c17 => ?_) (fun c17 => ?_)
      · refine dj_sub (lv2 := [(0, .ref (g.1 82)), (4, .int x4), (7, .int x7), (8, .int x8)]) [0, 1, 2, 3] rfl ?_
        exact hkx89 S
      · refine dj_aload_n C 0 rfl dX9_bears_77 ?_
        refine dj_iload C 4 rfl dX9_bears_78 ?_
        refine dj_callVv (t := 9) (As := [.int x9]) C dw_X9_206 ⟨_, _, rfl⟩ (by decide) dz_82 (ct_X9_steps l g x9 S) ⟨Nat.le_of_ble_eq_true rfl, Nat.le_of_ble_eq_true rfl⟩ rfl (Nat.le_of_ble_eq_true rfl) rfl dX9_bears_80 (fun r18 => ?_)
        refine dj_iinc (lv2 := [(0, .ref (g.1 82)), (4, .int x4), (7, .int x7), (8, .int x8), (9, .int (x9 + 1))]) C 4 rfl [1, 2, 3, 4, 0] dX9_bears_83 dc_iconst_1 (by decide) rfl ?_
        refine dj_goto (tgt := 62) C dX9_bears_86 (by decide) ?_
        exact ih (x9 + 1) r18
set_option maxRecDepth 100000 in
set_option maxHeartbeats 4000000 in
theorem jX9_bears_L41 {p : Program} {l : Launch} {e : Env} {R : Room} {s : State} {m : MethodId} {args : Array Value} {below : List Frame} {meth : Method} {c : Code} {g : dk_G} (C : dk_C p l e R s m args below meth c g cX9_bears "DuckWalkModel" 10 (some .int)) (hR : R = { frames := 4, cells := 0, slots := 0, locals := 91 }) (x4 : Int32)   : ∀ (n : Nat) (x7 : Int32) (x8 : Int32) (S : dk_S), dk_J p l e R s m args below meth c g 10 dk_qi 41 [(0, .ref (g.1 82)), (4, .int x4), (7, .int x7), (8, .int x8)] [] S (fX9_bears_L41 x4 n x7 x8 S) some := by
  subst hR
  intro n
  induction n with
  | zero =>
    intro x7 x8 S
    exact dj_none
  | succ n ih =>
    intro x7 x8 S
    rw [fX9_bears_L41]
    refine dj_iload C 3 rfl dX9_bears_41 ?_
    refine dj_if_lt (tgt := 133) C dX9_bears_43 (by decide) (fun c5 => ?_) (fun c5 => ?_)
    · refine dj_iload C 2 rfl dX9_bears_133 ?_
      exact dj_iret C dX9_bears_135
    · refine dj_aload_n C 0 rfl dX9_bears_46 ?_
      refine dj_iload C 3 rfl dX9_bears_47 ?_
      refine dj_puti C dl_X9_176 dp_9_24 rfl dz_82 dX9_bears_49 (fun S6 => ?_)
      refine dj_aload_n C 0 rfl dX9_bears_52 ?_
      refine dj_iload C 1 rfl dX9_bears_53 ?_
      refine dj_iconst C dX9_bears_55 dc_iconst_0 ?_
      refine dj_callVv (t := 9) (As := [.int x4, .int 0]) C dw_X9_183 ⟨_, _, rfl⟩ (by decide) dz_82 (ct_X9_starts l g x4 0 S6) ⟨Nat.le_of_ble_eq_true rfl, Nat.le_of_ble_eq_true rfl⟩ rfl (Nat.le_of_ble_eq_true rfl) rfl dX9_bears_56 (fun r7 => ?_)
      refine dj_iconst C dX9_bears_59 dc_iconst_0 ?_
      refine dj_istore (lv2 := [(0, .ref (g.1 82)), (4, .int x4), (7, .int x7), (8, .int x8), (9, .int 0)]) C [1, 2, 3, 4, 0] dX9_bears_60 (by decide) rfl ?_
      refine jX9_bears_L62 C rfl x4 x7 x8 _ (fun t8 => ?_) dk_FU 0 r7
      · refine dj_iload C 3 rfl dX9_bears_89 ?_
        refine dj_join 104 (fun t9 : dk_S => [(0, .ref (g.1 82)), (4, .int x4), (7, .int x7), (8, .int x8)]) (fun t9 : dk_S => []) (fun t9 : dk_S => t9) (fun t9 => ?_) (fun k10 hk10 => ?_)
        · refine dj_aload_n C 0 rfl dX9_bears_104 ?_
          refine dj_geti C dl_X9_160 rfl dz_82 dX9_bears_105 ?_
          refine dj_dia 125 [] (fun y11 => ?_) (fun hd11 => ?_)
          · refine dj_istore (lv2 := [(0, .ref (g.1 82)), (4, .int x4), (7, .int y11), (8, .int x8)]) C [1, 2, 0, 3] dX9_bears_125 (by decide) rfl ?_
            refine dj_iinc (lv2 := [(0, .ref (g.1 82)), (4, .int x4), (7, .int y11), (8, .int (x8 + (-1)))]) C 3 rfl [1, 2, 3, 0] dX9_bears_127 dc_iconst_m1 (by decide) rfl ?_
            refine dj_goto (tgt := 41) C dX9_bears_130 (by decide) ?_
            exact ih y11 (x8 + (-1)) t9
          · refine dj_ltite ?_
            refine dj_if_ne (tgt := 123) C dX9_bears_108 (by decide) (fun c12 => ?_) (fun c12 => ?_)
            · refine dj_iload C 2 rfl dX9_bears_123 ?_
              exact hd11 _
            · refine dj_iload C 2 rfl dX9_bears_111 ?_
              refine dj_bipush C dX9_bears_113 dc_bipush_m9 ?_
              refine dj_ltite ?_
              refine dj_icmp_ne (tgt := 123) C dX9_bears_115 (by decide) (fun c13 => ?_) (fun c13 => ?_)
              · refine dj_iload C 2 rfl dX9_bears_123 ?_
                exact hd11 _
              · refine dj_iload C 3 rfl dX9_bears_118 ?_
                refine dj_goto (tgt := 125) C dX9_bears_120 (by decide) ?_
                exact hd11 _
        · refine dj_if_ne (tgt := 104) C dX9_bears_91 (by decide) (fun c14 => ?_) (fun c14 => ?_)
          · exact hk10 t8
          · refine dj_aload_n C 0 rfl dX9_bears_94 ?_
            refine dj_geti C dl_X9_160 rfl dz_82 dX9_bears_95 ?_
            refine dj_if_eq (tgt := 104) C dX9_bears_98 (by decide) (fun c15 => ?_) (fun c15 => ?_)
            · exact hk10 t8
            · refine dj_bipush C dX9_bears_101 dc_bipush_m9 ?_
              exact dj_iret C dX9_bears_103
set_option maxRecDepth 100000 in
set_option maxHeartbeats 4000000 in
theorem ct_X9_bears (l : Launch) (g : dk_G) (x1 : Int32) (x2 : Int32) (x3 : Int32) (x4 : Int32) (x5 : Int32) (S : dk_S)  : dk_M l g yX9_bears cX9_bears 10 (some .int) 4 91 [.ref (g.1 82), .int x1, .int x2, .int x3, .int x4, .int x5] S (fX9_bears x1 x2 x3 x4 x5 S) dk_qi := by
  refine dk_enter "DuckWalkModel" (by decide +kernel) rfl (Nat.le_of_ble_eq_true rfl) [(0, .ref (g.1 82)), (1, .int x1), (2, .int x2), (3, .int x3), (4, .int x4), (5, .int x5)] rfl ?_
  intro p e s m args below meth c C
  unfold fX9_bears
  refine dj_aload_n C 0 rfl dX9_bears_0 ?_
  refine dj_iload C 5 rfl dX9_bears_1 ?_
  refine dj_iconst C dX9_bears_3 dc_iconst_0 ?_
  refine dj_bipush C dX9_bears_4 dc_bipush_99 ?_
  refine dj_callSi (As := [.int x5, .int 0, .int 99]) C dw_X9_80 (ct_X9_in l g x5 0 99 S) ⟨Nat.le_of_ble_eq_true rfl, Nat.le_of_ble_eq_true rfl⟩ rfl (Nat.le_of_ble_eq_true rfl) rfl dX9_bears_6 (fun r1 => ?_)
  refine dj_iload_n C 1 rfl dX9_bears_9 ?_
  refine dj_iload_n C 2 rfl dX9_bears_10 ?_
  refine dj_iload_n C 3 rfl dX9_bears_11 ?_
  refine dj_iload C 4 rfl dX9_bears_12 ?_
  refine dj_callVi (t := 9) (As := [.int r1.1, .int x1, .int x2, .int x3, .int x4]) C dw_X9_238 ⟨_, _, rfl⟩ (by decide) dz_82 (ct_X9_need l g r1.1 x1 x2 x3 x4 r1.2) ⟨Nat.le_of_ble_eq_true rfl, Nat.le_of_ble_eq_true rfl⟩ rfl (Nat.le_of_ble_eq_true rfl) rfl dX9_bears_14 (fun r2 => ?_)
  refine dj_istore (lv2 := [(0, .ref (g.1 82)), (4, .int x4), (5, .int x5), (6, .int r2.1)]) C [1, 5, 6, 0] dX9_bears_17 (by decide) rfl ?_
  refine dj_iload C 3 rfl dX9_bears_19 ?_
  refine dj_if_ge (tgt := 27) C dX9_bears_21 (by decide) (fun c3 => ?_) (fun c3 => ?_)
  · refine dj_bipush C dX9_bears_27 dc_bipush_m9 ?_
    refine dj_istore (lv2 := [(0, .ref (g.1 82)), (4, .int x4), (5, .int x5), (7, .int (-9))]) C [1, 2, 3, 0] dX9_bears_29 (by decide) rfl ?_
    refine dj_aload_n C 0 rfl dX9_bears_31 ?_
    refine dj_iload C 2 rfl dX9_bears_32 ?_
    refine dj_puti C dl_X9_151 dp_9_23 rfl dz_82 dX9_bears_34 (fun S4 => ?_)
    refine dj_bipush C dX9_bears_37 dc_bipush_99 ?_
    refine dj_istore (lv2 := [(0, .ref (g.1 82)), (4, .int x4), (7, .int (-9)), (8, .int 99)]) C [1, 2, 4, 0] dX9_bears_39 (by decide) rfl ?_
    refine jX9_bears_L41 C rfl x4 dk_FU (-9) 99 S4
  · refine dj_iload C 3 rfl dX9_bears_24 ?_
    exact dj_iret C dX9_bears_26
noncomputable def fX9_meets_L141  : Nat → Int32 → dk_S → Option (Int32 × dk_S)
  | 0, _, _ => none
  | n + 1, x6, S => if 400 < x6 then some ((-9), S) else if (S.1 82 27) = 0 then (fX9_steps x6 S).bind (fun r17 => dk_lt (fun t18 : dk_S => (fX9_meets_L141 n (x6 + 1) t18 : Option (Int32 × dk_S))) (fun k19 => if (r17.1 82 27) = 0 then dk_gd (dk_in x6 401) (if (r17.1 82 25) = (r17.1 102 x6.toNatClampNeg) then some (x6, r17) else k19 r17) else k19 r17)) else some ((-9), S)
noncomputable def fX9_meets_L73 (x1 : Int32) (x3 : Int32) (x4 : Int32) (x5 : Int32) (kx123 : dk_S → Option (Int32 × dk_S)) : Nat → Int32 → dk_S → Option (Int32 × dk_S)
  | 0, _, _ => none
  | n + 1, x6, S => if 400 < x6 then kx123 S else dk_lt (fun t23 : dk_S => (dk_lt (if (t23.1 82 27) = 0 then t23.1 82 25 else (-9)) (fun y25 : Int32 => dk_gd (dk_in x6 401) (dk_lt (dk_si t23 102 x6.toNatClampNeg y25) (fun S26 => fX9_meets_L73 x1 x3 x4 x5 kx123 n (x6 + 1) S26))) : Option (Int32 × dk_S))) (fun k24 => if (S.1 82 27) = 0 then (fX9_steps x6 S).bind (fun r29 => k24 r29) else k24 S)
noncomputable def fX9_meets (x1 : Int32) (x2 : Int32) (x3 : Int32) (x4 : Int32) (x5 : Int32) (S : dk_S) : Option (Int32 × dk_S) := (fX9_isPlace x2 S).bind (fun r1 => if r1.1 = 0 then some ((-1), r1.2) else (fX9_areGood x1 x3 x4 x5 r1.2).bind (fun r3 => if r3.1 = 0 then some ((-1), r3.2) else dk_gd (dk_in x1 4) (if (r3.2.1 89 x1.toNatClampNeg) = 0 then (fX9_notes 1 r3.2).bind (fun r6 => some (r6.1, r6.2)) else dk_gd (dk_in x2 4) (if (r3.2.1 89 x2.toNatClampNeg) = 0 then (fX9_notes 1 r3.2).bind (fun r8 => some (r8.1, r8.2)) else dk_gd (dk_in x3 4) (if (r3.2.1 91 x3.toNatClampNeg) = 0 then (fX9_notes 1 r3.2).bind (fun r30 => some (r30.1, r30.2)) else (fX9_looksAt x2 x3 x4 r3.2).bind (fun r10 => (fX9_starts x5 0 r10).bind (fun r11 => fX9_meets_L73 x1 x3 x4 x5 (fun t12 : dk_S => (fX9_looksAt x1 x3 x4 t12).bind (fun r13 => (fX9_starts x5 0 r13).bind (fun r14 => fX9_meets_L141 dk_FU 1 r14))) dk_FU 1 r11)))))))
set_option maxRecDepth 100000 in
set_option maxHeartbeats 4000000 in
theorem jX9_meets_L141 {p : Program} {l : Launch} {e : Env} {R : Room} {s : State} {m : MethodId} {args : Array Value} {below : List Frame} {meth : Method} {c : Code} {g : dk_G} (C : dk_C p l e R s m args below meth c g cX9_meets "DuckWalkModel" 7 (some .int)) (hR : R = { frames := 3, cells := 0, slots := 0, locals := 66 })    : ∀ (n : Nat) (x6 : Int32) (S : dk_S), dk_J p l e R s m args below meth c g 7 dk_qi 141 [(0, .ref (g.1 82)), (6, .int x6)] [] S (fX9_meets_L141 n x6 S) some := by
  subst hR
  intro n
  induction n with
  | zero =>
    intro x6 S
    exact dj_none
  | succ n ih =>
    intro x6 S
    rw [fX9_meets_L141]
    refine dj_iload C 1 rfl dX9_meets_141 ?_
    refine dj_sipush C dX9_meets_143 dc_sipush_400 ?_
    refine dj_icmp_gt (tgt := 192) C dX9_meets_146 (by decide) (fun c15 => ?_) (fun c15 => ?_)
    · refine dj_bipush C dX9_meets_192 dc_bipush_m9 ?_
      exact dj_iret C dX9_meets_194
    · refine dj_aload_n C 0 rfl dX9_meets_149 ?_
      refine dj_geti C dl_X9_160 rfl dz_82 dX9_meets_150 ?_
      refine dj_if_ne (tgt := 192) C dX9_meets_153 (by decide) (fun c16 => ?_) (fun c16 => ?_)
      · refine dj_bipush C dX9_meets_192 dc_bipush_m9 ?_
        exact dj_iret C dX9_meets_194
      · refine dj_aload_n C 0 rfl dX9_meets_156 ?_
        refine dj_iload C 1 rfl dX9_meets_157 ?_
        refine dj_callVv (t := 9) (As := [.int x6]) C dw_X9_206 ⟨_, _, rfl⟩ (by decide) dz_82 (ct_X9_steps l g x6 S) ⟨Nat.le_of_ble_eq_true rfl, Nat.le_of_ble_eq_true rfl⟩ rfl (Nat.le_of_ble_eq_true rfl) rfl dX9_meets_159 (fun r17 => ?_)
        refine dj_aload_n C 0 rfl dX9_meets_162 ?_
        refine dj_geti C dl_X9_160 rfl dz_82 dX9_meets_163 ?_
        refine dj_join 186 (fun t18 : dk_S => [(0, .ref (g.1 82)), (6, .int x6)]) (fun t18 : dk_S => []) (fun t18 : dk_S => t18) (fun t18 => ?_) (fun k19 hk19 => ?_)
        · refine dj_iinc (lv2 := [(0, .ref (g.1 82)), (6, .int (x6 + 1))]) C 1 rfl [1, 0] dX9_meets_186 dc_iconst_1 (by decide) rfl ?_
          refine dj_goto (tgt := 141) C dX9_meets_189 (by decide) ?_
          exact ih (x6 + 1) t18
        · refine dj_if_ne (tgt := 186) C dX9_meets_166 (by decide) (fun c20 => ?_) (fun c20 => ?_)
          · exact hk19 r17
          · refine dj_aload_n C 0 rfl dX9_meets_169 ?_
            refine dj_geti C dl_X9_154 rfl dz_82 dX9_meets_170 ?_
            refine dj_aload_n C 0 rfl dX9_meets_173 ?_
            refine dj_getr (r := 20) (k2 := 102) C dl_X9_69 rfl dz_82 rfl dX9_meets_174 ?_
            refine dj_iload C 1 rfl dX9_meets_177 ?_
            refine dj_iald (n := 401) C dz_102 (by decide) dX9_meets_179 ?_
            refine dj_icmp_ne (tgt := 186) C dX9_meets_180 (by decide) (fun c21 => ?_) (fun c21 => ?_)
            · exact hk19 r17
            · refine dj_iload C 1 rfl dX9_meets_183 ?_
              exact dj_iret C dX9_meets_185
set_option maxRecDepth 100000 in
set_option maxHeartbeats 4000000 in
theorem jX9_meets_L73 {p : Program} {l : Launch} {e : Env} {R : Room} {s : State} {m : MethodId} {args : Array Value} {below : List Frame} {meth : Method} {c : Code} {g : dk_G} (C : dk_C p l e R s m args below meth c g cX9_meets "DuckWalkModel" 7 (some .int)) (hR : R = { frames := 3, cells := 0, slots := 0, locals := 66 }) (x1 : Int32) (x3 : Int32) (x4 : Int32) (x5 : Int32) (kx123 : dk_S → Option (Int32 × dk_S))  (hkx123 : ∀ t : dk_S, dk_J p l e R s m args below meth c g 7 dk_qi 123 [(0, .ref (g.1 82)), (1, .int x1), (3, .int x3), (4, .int x4), (5, .int x5)] [] t (kx123 t) some) : ∀ (n : Nat) (x6 : Int32) (S : dk_S), dk_J p l e R s m args below meth c g 7 dk_qi 73 [(0, .ref (g.1 82)), (1, .int x1), (3, .int x3), (4, .int x4), (5, .int x5), (6, .int x6)] [] S (fX9_meets_L73 x1 x3 x4 x5 kx123 n x6 S) some := by
  subst hR
  intro n
  induction n with
  | zero =>
    intro x6 S
    exact dj_none
  | succ n ih =>
    intro x6 S
    rw [fX9_meets_L73]
    refine dj_iload C 5 rfl dX9_meets_73 ?_
    refine dj_sipush C dX9_meets_75 dc_sipush_400 ?_
    refine dj_icmp_gt (tgt := 123) C dX9_meets_78 (by decide) (fun c22 => ?_) (fun c22 => ?_)
    · refine dj_sub (lv2 := [(0, .ref (g.1 82)), (1, .int x1), (3, .int x3), (4, .int x4), (5, .int x5)]) [0, 1, 2, 3, 4] rfl ?_
      exact hkx123 S
    · refine dj_aload_n C 0 rfl dX9_meets_81 ?_
      refine dj_geti C dl_X9_160 rfl dz_82 dX9_meets_82 ?_
      refine dj_join 94 (fun t23 : dk_S => [(0, .ref (g.1 82)), (1, .int x1), (3, .int x3), (4, .int x4), (5, .int x5), (6, .int x6)]) (fun t23 : dk_S => []) (fun t23 : dk_S => t23) (fun t23 => ?_) (fun k24 hk24 => ?_)
      · refine dj_aload_n C 0 rfl dX9_meets_94 ?_
        refine dj_getr (r := 20) (k2 := 102) C dl_X9_69 rfl dz_82 rfl dX9_meets_95 ?_
        refine dj_iload C 5 rfl dX9_meets_98 ?_
        refine dj_aload_n C 0 rfl dX9_meets_100 ?_
        refine dj_geti C dl_X9_160 rfl dz_82 dX9_meets_101 ?_
        refine dj_dia 116 [.int x6, .ref (g.1 102)] (fun y25 => ?_) (fun hd25 => ?_)
        · refine dj_iast (n := 401) C dz_102 (by decide) dX9_meets_116 (fun S26 => ?_)
          refine dj_iinc (lv2 := [(0, .ref (g.1 82)), (1, .int x1), (3, .int x3), (4, .int x4), (5, .int x5), (6, .int (x6 + 1))]) C 5 rfl [1, 2, 3, 4, 5, 0] dX9_meets_117 dc_iconst_1 (by decide) rfl ?_
          refine dj_goto (tgt := 73) C dX9_meets_120 (by decide) ?_
          exact ih (x6 + 1) S26
        · refine dj_ltite ?_
          refine dj_if_ne (tgt := 114) C dX9_meets_104 (by decide) (fun c27 => ?_) (fun c27 => ?_)
          · refine dj_bipush C dX9_meets_114 dc_bipush_m9 ?_
            exact hd25 _
          · refine dj_aload_n C 0 rfl dX9_meets_107 ?_
            refine dj_geti C dl_X9_154 rfl dz_82 dX9_meets_108 ?_
            refine dj_goto (tgt := 116) C dX9_meets_111 (by decide) ?_
            exact hd25 _
      · refine dj_if_ne (tgt := 94) C dX9_meets_85 (by decide) (fun c28 => ?_) (fun c28 => ?_)
        · exact hk24 S
        · refine dj_aload_n C 0 rfl dX9_meets_88 ?_
          refine dj_iload C 5 rfl dX9_meets_89 ?_
          refine dj_callVv (t := 9) (As := [.int x6]) C dw_X9_206 ⟨_, _, rfl⟩ (by decide) dz_82 (ct_X9_steps l g x6 S) ⟨Nat.le_of_ble_eq_true rfl, Nat.le_of_ble_eq_true rfl⟩ rfl (Nat.le_of_ble_eq_true rfl) rfl dX9_meets_91 (fun r29 => ?_)
          exact hk24 r29
set_option maxRecDepth 100000 in
set_option maxHeartbeats 4000000 in
theorem ct_X9_meets (l : Launch) (g : dk_G) (x1 : Int32) (x2 : Int32) (x3 : Int32) (x4 : Int32) (x5 : Int32) (S : dk_S)  : dk_M l g yX9_meets cX9_meets 7 (some .int) 3 66 [.ref (g.1 82), .int x1, .int x2, .int x3, .int x4, .int x5] S (fX9_meets x1 x2 x3 x4 x5 S) dk_qi := by
  refine dk_enter "DuckWalkModel" (by decide +kernel) rfl (Nat.le_of_ble_eq_true rfl) [(0, .ref (g.1 82)), (1, .int x1), (2, .int x2), (3, .int x3), (4, .int x4), (5, .int x5)] rfl ?_
  intro p e s m args below meth c C
  unfold fX9_meets
  refine dj_iload_n C 2 rfl dX9_meets_0 ?_
  refine dj_callSi (As := [.int x2]) C dw_X9_139 (ct_X9_isPlace l g x2 S) ⟨Nat.le_of_ble_eq_true rfl, Nat.le_of_ble_eq_true rfl⟩ rfl (Nat.le_of_ble_eq_true rfl) rfl dX9_meets_1 (fun r1 => ?_)
  refine dj_if_eq (tgt := 20) C dX9_meets_4 (by decide) (fun c2 => ?_) (fun c2 => ?_)
  · refine dj_iconst C dX9_meets_20 dc_iconst_m1 ?_
    exact dj_iret C dX9_meets_21
  · refine dj_aload_n C 0 rfl dX9_meets_7 ?_
    refine dj_iload_n C 1 rfl dX9_meets_8 ?_
    refine dj_iload_n C 3 rfl dX9_meets_9 ?_
    refine dj_iload C 4 rfl dX9_meets_10 ?_
    refine dj_iload C 5 rfl dX9_meets_12 ?_
    refine dj_callVi (t := 9) (As := [.int x1, .int x3, .int x4, .int x5]) C dw_X9_230 ⟨_, _, rfl⟩ (by decide) dz_82 (ct_X9_areGood l g x1 x3 x4 x5 r1.2) ⟨Nat.le_of_ble_eq_true rfl, Nat.le_of_ble_eq_true rfl⟩ rfl (Nat.le_of_ble_eq_true rfl) rfl dX9_meets_14 (fun r3 => ?_)
    refine dj_if_ne (tgt := 22) C dX9_meets_17 (by decide) (fun c4 => ?_) (fun c4 => ?_)
    · refine dj_aload_n C 0 rfl dX9_meets_22 ?_
      refine dj_getr (r := 7) (k2 := 89) C dl_X9_29 rfl dz_82 rfl dX9_meets_23 ?_
      refine dj_iload_n C 1 rfl dX9_meets_26 ?_
      refine dj_zald (n := 4) C dz_89 (by decide) dX9_meets_27 ?_
      refine dj_if_eq (tgt := 49) C dX9_meets_28 (by decide) (fun c5 => ?_) (fun c5 => ?_)
      · refine dj_aload_n C 0 rfl dX9_meets_49 ?_
        refine dj_iconst C dX9_meets_50 dc_iconst_1 ?_
        refine dj_callVi (t := 9) (As := [.int 1]) C dw_X9_94 ⟨_, _, rfl⟩ (by decide) dz_82 (ct_X9_notes l g 1 r3.2) ⟨Nat.le_of_ble_eq_true rfl, Nat.le_of_ble_eq_true rfl⟩ rfl (Nat.le_of_ble_eq_true rfl) rfl dX9_meets_51 (fun r6 => ?_)
        exact dj_iret C dX9_meets_54
      · refine dj_aload_n C 0 rfl dX9_meets_31 ?_
        refine dj_getr (r := 7) (k2 := 89) C dl_X9_29 rfl dz_82 rfl dX9_meets_32 ?_
        refine dj_iload_n C 2 rfl dX9_meets_35 ?_
        refine dj_zald (n := 4) C dz_89 (by decide) dX9_meets_36 ?_
        refine dj_if_eq (tgt := 49) C dX9_meets_37 (by decide) (fun c7 => ?_) (fun c7 => ?_)
        · refine dj_aload_n C 0 rfl dX9_meets_49 ?_
          refine dj_iconst C dX9_meets_50 dc_iconst_1 ?_
          refine dj_callVi (t := 9) (As := [.int 1]) C dw_X9_94 ⟨_, _, rfl⟩ (by decide) dz_82 (ct_X9_notes l g 1 r3.2) ⟨Nat.le_of_ble_eq_true rfl, Nat.le_of_ble_eq_true rfl⟩ rfl (Nat.le_of_ble_eq_true rfl) rfl dX9_meets_51 (fun r8 => ?_)
          exact dj_iret C dX9_meets_54
        · refine dj_aload_n C 0 rfl dX9_meets_40 ?_
          refine dj_getr (r := 9) (k2 := 91) C dl_X9_36 rfl dz_82 rfl dX9_meets_41 ?_
          refine dj_iload_n C 3 rfl dX9_meets_44 ?_
          refine dj_zald (n := 4) C dz_91 (by decide) dX9_meets_45 ?_
          refine dj_if_ne (tgt := 55) C dX9_meets_46 (by decide) (fun c9 => ?_) (fun c9 => ?_)
          · refine dj_aload_n C 0 rfl dX9_meets_55 ?_
            refine dj_iload_n C 2 rfl dX9_meets_56 ?_
            refine dj_iload_n C 3 rfl dX9_meets_57 ?_
            refine dj_iload C 4 rfl dX9_meets_58 ?_
            refine dj_callVv (t := 9) (As := [.int x2, .int x3, .int x4]) C dw_X9_234 ⟨_, _, rfl⟩ (by decide) dz_82 (ct_X9_looksAt l g x2 x3 x4 r3.2) ⟨Nat.le_of_ble_eq_true rfl, Nat.le_of_ble_eq_true rfl⟩ rfl (Nat.le_of_ble_eq_true rfl) rfl dX9_meets_60 (fun r10 => ?_)
            refine dj_aload_n C 0 rfl dX9_meets_63 ?_
            refine dj_iload C 5 rfl dX9_meets_64 ?_
            refine dj_iconst C dX9_meets_66 dc_iconst_0 ?_
            refine dj_callVv (t := 9) (As := [.int x5, .int 0]) C dw_X9_183 ⟨_, _, rfl⟩ (by decide) dz_82 (ct_X9_starts l g x5 0 r10) ⟨Nat.le_of_ble_eq_true rfl, Nat.le_of_ble_eq_true rfl⟩ rfl (Nat.le_of_ble_eq_true rfl) rfl dX9_meets_67 (fun r11 => ?_)
            refine dj_iconst C dX9_meets_70 dc_iconst_1 ?_
            refine dj_istore (lv2 := [(0, .ref (g.1 82)), (1, .int x1), (3, .int x3), (4, .int x4), (5, .int x5), (6, .int 1)]) C [1, 2, 4, 5, 6, 0] dX9_meets_71 (by decide) rfl ?_
            refine jX9_meets_L73 C rfl x1 x3 x4 x5 _ (fun t12 => ?_) dk_FU 1 r11
            · refine dj_aload_n C 0 rfl dX9_meets_123 ?_
              refine dj_iload_n C 1 rfl dX9_meets_124 ?_
              refine dj_iload_n C 2 rfl dX9_meets_125 ?_
              refine dj_iload C 3 rfl dX9_meets_126 ?_
              refine dj_callVv (t := 9) (As := [.int x1, .int x3, .int x4]) C dw_X9_234 ⟨_, _, rfl⟩ (by decide) dz_82 (ct_X9_looksAt l g x1 x3 x4 t12) ⟨Nat.le_of_ble_eq_true rfl, Nat.le_of_ble_eq_true rfl⟩ rfl (Nat.le_of_ble_eq_true rfl) rfl dX9_meets_128 (fun r13 => ?_)
              refine dj_aload_n C 0 rfl dX9_meets_131 ?_
              refine dj_iload C 4 rfl dX9_meets_132 ?_
              refine dj_iconst C dX9_meets_134 dc_iconst_0 ?_
              refine dj_callVv (t := 9) (As := [.int x5, .int 0]) C dw_X9_183 ⟨_, _, rfl⟩ (by decide) dz_82 (ct_X9_starts l g x5 0 r13) ⟨Nat.le_of_ble_eq_true rfl, Nat.le_of_ble_eq_true rfl⟩ rfl (Nat.le_of_ble_eq_true rfl) rfl dX9_meets_135 (fun r14 => ?_)
              refine dj_iconst C dX9_meets_138 dc_iconst_1 ?_
              refine dj_istore (lv2 := [(0, .ref (g.1 82)), (6, .int 1)]) C [1, 0] dX9_meets_139 (by decide) rfl ?_
              refine jX9_meets_L141 C rfl dk_FU 1 r14
          · refine dj_aload_n C 0 rfl dX9_meets_49 ?_
            refine dj_iconst C dX9_meets_50 dc_iconst_1 ?_
            refine dj_callVi (t := 9) (As := [.int 1]) C dw_X9_94 ⟨_, _, rfl⟩ (by decide) dz_82 (ct_X9_notes l g 1 r3.2) ⟨Nat.le_of_ble_eq_true rfl, Nat.le_of_ble_eq_true rfl⟩ rfl (Nat.le_of_ble_eq_true rfl) rfl dX9_meets_51 (fun r30 => ?_)
            exact dj_iret C dX9_meets_54
    · refine dj_iconst C dX9_meets_20 dc_iconst_m1 ?_
      exact dj_iret C dX9_meets_21
