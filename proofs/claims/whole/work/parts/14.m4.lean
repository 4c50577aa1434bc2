noncomputable def fX8_refusalOfTocks_L72 (x3 : Int32) : Nat → Int32 → dk_S → Option (Int32 × dk_S)
  | 0, _, _ => none
  | n + 1, x4, S => dk_gd (dk_in x3 6) (if (S.1 (31 + 2 * x3.toNatClampNeg) 1) ≤ x4 then some (0, S) else dk_gd (dk_in x3 6) (dk_gd (dk_in x4 60) ((fX8_noPace (S.1 ((31 + 2 * x3.toNatClampNeg) + 1) x4.toNatClampNeg) S).bind (fun r18 => if r18.1 = 0 then fX8_refusalOfTocks_L72 x3 n (x4 + 1) r18.2 else (fX8_found 3 r18.2).bind (fun r20 => some (r20.1, r20.2))))))
noncomputable def fX8_refusalOfTocks (x1 : Int32) (x2 : Int32) (x3 : Int32) (S : dk_S) : Option (Int32 × dk_S) := (fX8_noWalker x1 S).bind (fun r1 => if r1.1 = 0 then (fX8_noBoard x2 r1.2).bind (fun r3 => if r3.1 = 0 then (fX8_noRow x3 r3.2).bind (fun r5 => if r5.1 = 0 then dk_gd (dk_in x3 6) ((fX5_isMissing (31 + 2 * x3.toNatClampNeg) r5.2).bind (fun r8 => if r8.1 = 0 then (fX8_isReady x1 x2 r8.2).bind (fun r11 => if r11.1 = 0 then (fX8_found 1 r11.2).bind (fun r22 => some (r22.1, r22.2)) else dk_gd (dk_in x3 6) (if 2 ≤ (r11.2.1 (31 + 2 * x3.toNatClampNeg) 1) then fX8_refusalOfTocks_L72 x3 dk_FU 0 r11.2 else (fX8_found 5 r11.2).bind (fun r21 => some (r21.1, r21.2)))) else (fX8_found 1 r8.2).bind (fun r10 => some (r10.1, r10.2)))) else some ((-1), r5.2)) else some ((-1), r3.2)) else some ((-1), r1.2))
set_option maxRecDepth 100000 in
set_option maxHeartbeats 4000000 in
theorem jX8_refusalOfTocks_L72 {p : Program} {l : Launch} {e : Env} {R : Room} {s : State} {m : MethodId} {args : Array Value} {below : List Frame} {meth : Method} {c : Code} {g : dk_G} (C : dk_C p l e R s m args below meth c g cX8_refusalOfTocks "DuckWalk" 5 (some .int)) (hR : R = { frames := 3, cells := 0, slots := 0, locals := 65 }) (x3 : Int32)   : ∀ (n : Nat) (x4 : Int32) (S : dk_S), dk_J p l e R s m args below meth c g 5 dk_qi 72 [(0, .ref (g.1 0)), (3, .int x3), (4, .int x4)] [] S (fX8_refusalOfTocks_L72 x3 n x4 S) some := by
  subst hR
  intro n
  induction n with
  | zero =>
    intro x4 S
    exact dj_none
  | succ n ih =>
    intro x4 S
    rw [fX8_refusalOfTocks_L72]
    refine dj_iload C 2 rfl dX8_refusalOfTocks_72 ?_
    refine dj_aload_n C 0 rfl dX8_refusalOfTocks_74 ?_
    refine dj_getr (r := 1) (k2 := 1) C dl_X8_11 rfl dz_0 rfl dX8_refusalOfTocks_75 ?_
    refine dj_iload_n C 1 rfl dX8_refusalOfTocks_78 ?_
    refine dj_aald C dr_50 dz_1 dX8_refusalOfTocks_79 (fun hi15 => ?_)
    refine dj_geti C dl_X8_170 rfl (dt_50 hi15) dX8_refusalOfTocks_80 ?_
    refine dj_icmp_ge (tgt := 116) C dX8_refusalOfTocks_83 (by decide) (fun c16 => ?_) (fun c16 => ?_)
    · refine dj_iconst C dX8_refusalOfTocks_116 dc_iconst_0 ?_
      exact dj_iret C dX8_refusalOfTocks_117
    · refine dj_aload_n C 0 rfl dX8_refusalOfTocks_86 ?_
      refine dj_getr (r := 1) (k2 := 1) C dl_X8_11 rfl dz_0 rfl dX8_refusalOfTocks_87 ?_
      refine dj_iload_n C 1 rfl dX8_refusalOfTocks_90 ?_
      refine dj_aald C dr_50 dz_1 dX8_refusalOfTocks_91 (fun hi17 => ?_)
      refine dj_getr (r := 1) (k2 := (31 + 2 * x3.toNatClampNeg) + 1) C dl_X8_164 rfl (dt_50 hi17) rfl dX8_refusalOfTocks_92 ?_
      refine dj_iload C 2 rfl dX8_refusalOfTocks_95 ?_
      refine dj_iald (n := 60) C (dt_5_1 (dt_50 hi17)) (by decide) dX8_refusalOfTocks_97 ?_
      refine dj_callSi (As := [.int (S.1 ((31 + 2 * x3.toNatClampNeg) + 1) x4.toNatClampNeg)]) C dw_X8_101 (ct_X8_noPace l g (S.1 ((31 + 2 * x3.toNatClampNeg) + 1) x4.toNatClampNeg) S) ⟨Nat.le_of_ble_eq_true rfl, Nat.le_of_ble_eq_true rfl⟩ rfl (Nat.le_of_ble_eq_true rfl) rfl dX8_refusalOfTocks_98 (fun r18 => ?_)
      refine dj_if_eq (tgt := 110) C dX8_refusalOfTocks_101 (by decide) (fun c19 => ?_) (fun c19 => ?_)
      · refine dj_iinc (lv2 := [(0, .ref (g.1 0)), (3, .int x3), (4, .int (x4 + 1))]) C 2 rfl [1, 2, 0] dX8_refusalOfTocks_110 dc_iconst_1 (by decide) rfl ?_
        refine dj_goto (tgt := 72) C dX8_refusalOfTocks_113 (by decide) ?_
        exact ih (x4 + 1) r18.2
      · refine dj_aload_n C 0 rfl dX8_refusalOfTocks_104 ?_
        refine dj_iconst C dX8_refusalOfTocks_105 dc_iconst_3 ?_
        refine dj_callVi (t := 8) (As := [.int 3]) C dw_X8_150 ⟨_, _, rfl⟩ (by decide) dz_0 (ct_X8_found l g 3 r18.2) ⟨Nat.le_of_ble_eq_true rfl, Nat.le_of_ble_eq_true rfl⟩ rfl (Nat.le_of_ble_eq_true rfl) rfl dX8_refusalOfTocks_106 (fun r20 => ?_)
        exact dj_iret C dX8_refusalOfTocks_109
set_option maxRecDepth 100000 in
set_option maxHeartbeats 4000000 in
theorem ct_X8_refusalOfTocks (l : Launch) (g : dk_G) (x1 : Int32) (x2 : Int32) (x3 : Int32) (S : dk_S)  : dk_M l g yX8_refusalOfTocks cX8_refusalOfTocks 5 (some .int) 3 65 [.ref (g.1 0), .int x1, .int x2, .int x3] S (fX8_refusalOfTocks x1 x2 x3 S) dk_qi := by
  refine dk_enter "DuckWalk" (by decide +kernel) rfl (Nat.le_of_ble_eq_true rfl) [(0, .ref (g.1 0)), (1, .int x1), (2, .int x2), (3, .int x3)] rfl ?_
  intro p e s m args below meth c C
  unfold fX8_refusalOfTocks
  refine dj_iload_n C 1 rfl dX8_refusalOfTocks_0 ?_
  refine dj_callSi (As := [.int x1]) C dw_X8_94 (ct_X8_noWalker l g x1 S) ⟨Nat.le_of_ble_eq_true rfl, Nat.le_of_ble_eq_true rfl⟩ rfl (Nat.le_of_ble_eq_true rfl) rfl dX8_refusalOfTocks_1 (fun r1 => ?_)
  refine dj_if_ne (tgt := 21) C dX8_refusalOfTocks_4 (by decide) (fun c2 => ?_) (fun c2 => ?_)
  · refine dj_iconst C dX8_refusalOfTocks_21 dc_iconst_m1 ?_
    exact dj_iret C dX8_refusalOfTocks_22
  · refine dj_iload_n C 2 rfl dX8_refusalOfTocks_7 ?_
    refine dj_callSi (As := [.int x2]) C dw_X8_98 (ct_X8_noBoard l g x2 r1.2) ⟨Nat.le_of_ble_eq_true rfl, Nat.le_of_ble_eq_true rfl⟩ rfl (Nat.le_of_ble_eq_true rfl) rfl dX8_refusalOfTocks_8 (fun r3 => ?_)
    refine dj_if_ne (tgt := 21) C dX8_refusalOfTocks_11 (by decide) (fun c4 => ?_) (fun c4 => ?_)
    · refine dj_iconst C dX8_refusalOfTocks_21 dc_iconst_m1 ?_
      exact dj_iret C dX8_refusalOfTocks_22
    · refine dj_iload_n C 3 rfl dX8_refusalOfTocks_14 ?_
      refine dj_callSi (As := [.int x3]) C dw_X8_147 (ct_X8_noRow l g x3 r3.2) ⟨Nat.le_of_ble_eq_true rfl, Nat.le_of_ble_eq_true rfl⟩ rfl (Nat.le_of_ble_eq_true rfl) rfl dX8_refusalOfTocks_15 (fun r5 => ?_)
      refine dj_if_eq (tgt := 23) C dX8_refusalOfTocks_18 (by decide) (fun c6 => ?_) (fun c6 => ?_)
      · refine dj_aload_n C 0 rfl dX8_refusalOfTocks_23 ?_
        refine dj_getr (r := 1) (k2 := 1) C dl_X8_11 rfl dz_0 rfl dX8_refusalOfTocks_24 ?_
        refine dj_iload_n C 3 rfl dX8_refusalOfTocks_27 ?_
        refine dj_aald C dr_50 dz_1 dX8_refusalOfTocks_28 (fun hi7 => ?_)
        refine dj_callVi (t := 5) (As := []) C dw_X8_157 ⟨_, _, rfl⟩ (by decide) (dt_50 hi7) (ct_X5_isMissing l g (31 + 2 * x3.toNatClampNeg) r5.2 (dt_50 hi7)) ⟨Nat.le_of_ble_eq_true rfl, Nat.le_of_ble_eq_true rfl⟩ rfl (Nat.le_of_ble_eq_true rfl) rfl dX8_refusalOfTocks_29 (fun r8 => ?_)
        refine dj_if_ne (tgt := 44) C dX8_refusalOfTocks_32 (by decide) (fun c9 => ?_) (fun c9 => ?_)
        · refine dj_aload_n C 0 rfl dX8_refusalOfTocks_44 ?_
          refine dj_iconst C dX8_refusalOfTocks_45 dc_iconst_1 ?_
          refine dj_callVi (t := 8) (As := [.int 1]) C dw_X8_150 ⟨_, _, rfl⟩ (by decide) dz_0 (ct_X8_found l g 1 r8.2) ⟨Nat.le_of_ble_eq_true rfl, Nat.le_of_ble_eq_true rfl⟩ rfl (Nat.le_of_ble_eq_true rfl) rfl dX8_refusalOfTocks_46 (fun r10 => ?_)
          exact dj_iret C dX8_refusalOfTocks_49
        · refine dj_aload_n C 0 rfl dX8_refusalOfTocks_35 ?_
          refine dj_iload_n C 1 rfl dX8_refusalOfTocks_36 ?_
          refine dj_iload_n C 2 rfl dX8_refusalOfTocks_37 ?_
          refine dj_callVi (t := 8) (As := [.int x1, .int x2]) C dw_X8_263 ⟨_, _, rfl⟩ (by decide) dz_0 (ct_X8_isReady l g x1 x2 r8.2) ⟨Nat.le_of_ble_eq_true rfl, Nat.le_of_ble_eq_true rfl⟩ rfl (Nat.le_of_ble_eq_true rfl) rfl dX8_refusalOfTocks_38 (fun r11 => ?_)
          refine dj_if_ne (tgt := 50) C dX8_refusalOfTocks_41 (by decide) (fun c12 => ?_) (fun c12 => ?_)
          · refine dj_aload_n C 0 rfl dX8_refusalOfTocks_50 ?_
            refine dj_getr (r := 1) (k2 := 1) C dl_X8_11 rfl dz_0 rfl dX8_refusalOfTocks_51 ?_
            refine dj_iload_n C 3 rfl dX8_refusalOfTocks_54 ?_
            refine dj_aald C dr_50 dz_1 dX8_refusalOfTocks_55 (fun hi13 => ?_)
            refine dj_geti C dl_X8_170 rfl (dt_50 hi13) dX8_refusalOfTocks_56 ?_
            refine dj_iconst C dX8_refusalOfTocks_59 dc_iconst_2 ?_
            refine dj_icmp_ge (tgt := 69) C dX8_refusalOfTocks_60 (by decide) (fun c14 => ?_) (fun c14 => ?_)
            · refine dj_iconst C dX8_refusalOfTocks_69 dc_iconst_0 ?_
              refine dj_istore (lv2 := [(0, .ref (g.1 0)), (3, .int x3), (4, .int 0)]) C [1, 4, 0] dX8_refusalOfTocks_70 (by decide) rfl ?_
              refine jX8_refusalOfTocks_L72 C rfl x3 dk_FU 0 r11.2
            · refine dj_aload_n C 0 rfl dX8_refusalOfTocks_63 ?_
              refine dj_iconst C dX8_refusalOfTocks_64 dc_iconst_5 ?_
              refine dj_callVi (t := 8) (As := [.int 5]) C dw_X8_150 ⟨_, _, rfl⟩ (by decide) dz_0 (ct_X8_found l g 5 r11.2) ⟨Nat.le_of_ble_eq_true rfl, Nat.le_of_ble_eq_true rfl⟩ rfl (Nat.le_of_ble_eq_true rfl) rfl dX8_refusalOfTocks_65 (fun r21 => ?_)
              exact dj_iret C dX8_refusalOfTocks_68
          · refine dj_aload_n C 0 rfl dX8_refusalOfTocks_44 ?_
            refine dj_iconst C dX8_refusalOfTocks_45 dc_iconst_1 ?_
            refine dj_callVi (t := 8) (As := [.int 1]) C dw_X8_150 ⟨_, _, rfl⟩ (by decide) dz_0 (ct_X8_found l g 1 r11.2) ⟨Nat.le_of_ble_eq_true rfl, Nat.le_of_ble_eq_true rfl⟩ rfl (Nat.le_of_ble_eq_true rfl) rfl dX8_refusalOfTocks_46 (fun r22 => ?_)
            exact dj_iret C dX8_refusalOfTocks_49
      · refine dj_iconst C dX8_refusalOfTocks_21 dc_iconst_m1 ?_
        exact dj_iret C dX8_refusalOfTocks_22
noncomputable def fX8_limp (x1 : Int32) (x2 : Int32) (x3 : Int32) (S : dk_S) : Option (Int32 × dk_S) := (fX8_refusalOfTocks x1 x2 x3 S).bind (fun r1 => if r1.1 = 0 then dk_gd (dk_in x3 6) ((fX2_search 17 (31 + 2 * x3.toNatClampNeg) r1.2).bind (fun r4 => (fX8_tell (r4.1 29 0) r4).bind (fun r5 => some (r5.2.1 29 1, r5.2)))) else some (r1.1, r1.2))
set_option maxRecDepth 100000 in
set_option maxHeartbeats 4000000 in
theorem ct_X8_limp (l : Launch) (g : dk_G) (x1 : Int32) (x2 : Int32) (x3 : Int32) (S : dk_S)  : dk_M l g yX8_limp cX8_limp 5 (some .int) 5 115 [.ref (g.1 0), .int x1, .int x2, .int x3] S (fX8_limp x1 x2 x3 S) dk_qi := by
  refine dk_enter "DuckWalk" (by decide +kernel) rfl (Nat.le_of_ble_eq_true rfl) [(0, .ref (g.1 0)), (1, .int x1), (2, .int x2), (3, .int x3)] rfl ?_
  intro p e s m args below meth c C
  unfold fX8_limp
  refine dj_aload_n C 0 rfl dX8_limp_0 ?_
  refine dj_iload_n C 1 rfl dX8_limp_1 ?_
  refine dj_iload_n C 2 rfl dX8_limp_2 ?_
  refine dj_iload_n C 3 rfl dX8_limp_3 ?_
  refine dj_callVi (t := 8) (As := [.int x1, .int x2, .int x3]) C dw_X8_297 ⟨_, _, rfl⟩ (by decide) dz_0 (ct_X8_refusalOfTocks l g x1 x2 x3 S) ⟨Nat.le_of_ble_eq_true rfl, Nat.le_of_ble_eq_true rfl⟩ rfl (Nat.le_of_ble_eq_true rfl) rfl dX8_limp_4 (fun r1 => ?_)
  refine dj_istore (lv2 := [(0, .ref (g.1 0)), (3, .int x3), (4, .int r1.1)]) C [1, 4, 0] dX8_limp_7 (by decide) rfl ?_
  refine dj_iload C 2 rfl dX8_limp_9 ?_
  refine dj_if_eq (tgt := 17) C dX8_limp_11 (by decide) (fun c2 => ?_) (fun c2 => ?_)
  · refine dj_aload_n C 0 rfl dX8_limp_17 ?_
    refine dj_getr (r := 29) (k2 := 29) C dl_X8_64 rfl dz_0 rfl dX8_limp_18 ?_
    refine dj_aload_n C 0 rfl dX8_limp_21 ?_
    refine dj_getr (r := 16) (k2 := 16) C dl_X8_54 rfl dz_0 rfl dX8_limp_22 ?_
    refine dj_getr (r := 1) (k2 := 17) C dl_X8_115 rfl dz_16 rfl dX8_limp_25 ?_
    refine dj_aload_n C 0 rfl dX8_limp_28 ?_
    refine dj_getr (r := 1) (k2 := 1) C dl_X8_11 rfl dz_0 rfl dX8_limp_29 ?_
    refine dj_iload_n C 1 rfl dX8_limp_32 ?_
    refine dj_aald C dr_50 dz_1 dX8_limp_33 (fun hi3 => ?_)
    refine dj_callVv (t := 2) (As := [.ref (g.1 17), .ref (g.1 (31 + 2 * x3.toNatClampNeg))]) C dw_X8_301 ⟨_, _, rfl⟩ (by decide) dz_29 (ct_X2_search l g 17 (31 + 2 * x3.toNatClampNeg) r1.2 dz_17 (dt_50 hi3)) ⟨Nat.le_of_ble_eq_true rfl, Nat.le_of_ble_eq_true rfl⟩ rfl (Nat.le_of_ble_eq_true rfl) rfl dX8_limp_34 (fun r4 => ?_)
    refine dj_aload_n C 0 rfl dX8_limp_37 ?_
    refine dj_aload_n C 0 rfl dX8_limp_38 ?_
    refine dj_getr (r := 29) (k2 := 29) C dl_X8_64 rfl dz_0 rfl dX8_limp_39 ?_
    refine dj_geti C dl_X8_305 rfl dz_29 dX8_limp_42 ?_
    refine dj_callVi (t := 8) (As := [.int (r4.1 29 0)]) C dw_X8_167 ⟨_, _, rfl⟩ (by decide) dz_0 (ct_X8_tell l g (r4.1 29 0) r4) ⟨Nat.le_of_ble_eq_true rfl, Nat.le_of_ble_eq_true rfl⟩ rfl (Nat.le_of_ble_eq_true rfl) rfl dX8_limp_45 (fun r5 => ?_)
    refine dj_pop C dX8_limp_48 rfl ?_
    refine dj_aload_n C 0 rfl dX8_limp_49 ?_
    refine dj_getr (r := 29) (k2 := 29) C dl_X8_64 rfl dz_0 rfl dX8_limp_50 ?_
    refine dj_geti C dl_X8_306 rfl dz_29 dX8_limp_53 ?_
    exact dj_iret C dX8_limp_56
  · refine dj_iload C 2 rfl dX8_limp_14 ?_
    exact dj_iret C dX8_limp_16
noncomputable def fX8_odds (x1 : Int32) (x2 : Int32) (x3 : Int32) (S : dk_S) : Option (Int32 × dk_S) := (fX8_refusalOfTocks x1 x2 x3 S).bind (fun r1 => if r1.1 = 0 then dk_gd (dk_in x3 6) ((fX2_search 17 (31 + 2 * x3.toNatClampNeg) r1.2).bind (fun r4 => (fX8_tellFraction (r4.1 29 3) (r4.1 29 2) r4).bind (fun r5 => some (r5.1 29 2, r5)))) else some (r1.1, r1.2))
set_option maxRecDepth 100000 in
set_option maxHeartbeats 4000000 in
theorem ct_X8_odds (l : Launch) (g : dk_G) (x1 : Int32) (x2 : Int32) (x3 : Int32) (S : dk_S)  : dk_M l g yX8_odds cX8_odds 5 (some .int) 5 115 [.ref (g.1 0), .int x1, .int x2, .int x3] S (fX8_odds x1 x2 x3 S) dk_qi := by
  refine dk_enter "DuckWalk" (by decide +kernel) rfl (Nat.le_of_ble_eq_true rfl) [(0, .ref (g.1 0)), (1, .int x1), (2, .int x2), (3, .int x3)] rfl ?_
  intro p e s m args below meth c C
  unfold fX8_odds
  refine dj_aload_n C 0 rfl dX8_odds_0 ?_
  refine dj_iload_n C 1 rfl dX8_odds_1 ?_
  refine dj_iload_n C 2 rfl dX8_odds_2 ?_
  refine dj_iload_n C 3 rfl dX8_odds_3 ?_
  refine dj_callVi (t := 8) (As := [.int x1, .int x2, .int x3]) C dw_X8_297 ⟨_, _, rfl⟩ (by decide) dz_0 (ct_X8_refusalOfTocks l g x1 x2 x3 S) ⟨Nat.le_of_ble_eq_true rfl, Nat.le_of_ble_eq_true rfl⟩ rfl (Nat.le_of_ble_eq_true rfl) rfl dX8_odds_4 (fun r1 => ?_)
  refine dj_istore (lv2 := [(0, .ref (g.1 0)), (3, .int x3), (4, .int r1.1)]) C [1, 4, 0] dX8_odds_7 (by decide) rfl ?_
  refine dj_iload C 2 rfl dX8_odds_9 ?_
  refine dj_if_eq (tgt := 17) C dX8_odds_11 (by decide) (fun c2 => ?_) (fun c2 => ?_)
  · refine dj_aload_n C 0 rfl dX8_odds_17 ?_
    refine dj_getr (r := 29) (k2 := 29) C dl_X8_64 rfl dz_0 rfl dX8_odds_18 ?_
    refine dj_aload_n C 0 rfl dX8_odds_21 ?_
    refine dj_getr (r := 16) (k2 := 16) C dl_X8_54 rfl dz_0 rfl dX8_odds_22 ?_
    refine dj_getr (r := 1) (k2 := 17) C dl_X8_115 rfl dz_16 rfl dX8_odds_25 ?_
    refine dj_aload_n C 0 rfl dX8_odds_28 ?_
    refine dj_getr (r := 1) (k2 := 1) C dl_X8_11 rfl dz_0 rfl dX8_odds_29 ?_
    refine dj_iload_n C 1 rfl dX8_odds_32 ?_
    refine dj_aald C dr_50 dz_1 dX8_odds_33 (fun hi3 => ?_)
    refine dj_callVv (t := 2) (As := [.ref (g.1 17), .ref (g.1 (31 + 2 * x3.toNatClampNeg))]) C dw_X8_301 ⟨_, _, rfl⟩ (by decide) dz_29 (ct_X2_search l g 17 (31 + 2 * x3.toNatClampNeg) r1.2 dz_17 (dt_50 hi3)) ⟨Nat.le_of_ble_eq_true rfl, Nat.le_of_ble_eq_true rfl⟩ rfl (Nat.le_of_ble_eq_true rfl) rfl dX8_odds_34 (fun r4 => ?_)
    refine dj_aload_n C 0 rfl dX8_odds_37 ?_
    refine dj_aload_n C 0 rfl dX8_odds_38 ?_
    refine dj_getr (r := 29) (k2 := 29) C dl_X8_64 rfl dz_0 rfl dX8_odds_39 ?_
    refine dj_geti C dl_X8_309 rfl dz_29 dX8_odds_42 ?_
    refine dj_aload_n C 0 rfl dX8_odds_45 ?_
    refine dj_getr (r := 29) (k2 := 29) C dl_X8_64 rfl dz_0 rfl dX8_odds_46 ?_
    refine dj_geti C dl_X8_312 rfl dz_29 dX8_odds_49 ?_
    refine dj_callVv (t := 8) (As := [.int (r4.1 29 3), .int (r4.1 29 2)]) C dw_X8_315 ⟨_, _, rfl⟩ (by decide) dz_0 (ct_X8_tellFraction l g (r4.1 29 3) (r4.1 29 2) r4) ⟨Nat.le_of_ble_eq_true rfl, Nat.le_of_ble_eq_true rfl⟩ rfl (Nat.le_of_ble_eq_true rfl) rfl dX8_odds_52 (fun r5 => ?_)
    refine dj_aload_n C 0 rfl dX8_odds_55 ?_
    refine dj_getr (r := 29) (k2 := 29) C dl_X8_64 rfl dz_0 rfl dX8_odds_56 ?_
    refine dj_geti C dl_X8_312 rfl dz_29 dX8_odds_59 ?_
    exact dj_iret C dX8_odds_62
  · refine dj_iload C 2 rfl dX8_odds_14 ?_
    exact dj_iret C dX8_odds_16
noncomputable def fX8_part (x1 : Int32) (x2 : Int32) (x3 : Int32) (x4 : Int32) (S : dk_S) : Option (Int32 × dk_S) := (fX8_noPair x1 x2 x3 S).bind (fun r1 => if r1.1 = 0 then (fX8_isOutside x4 0 3 r1.2).bind (fun r3 => if r3.1 = 0 then (fX8_isReady x1 x2 r3.2).bind (fun r5 => if r5.1 = 0 then (fX8_found 1 r5.2).bind (fun r11 => some (r11.1, r11.2)) else (fX7_span x3 r5.2).bind (fun r7 => dk_gd (dk_in x4 6) (dk_lt (dk_si r7.2 19 x4.toNatClampNeg 1) (fun S8 => (fX7_span x3 S8).bind (fun r9 => (fX8_tell r9.1 r9.2).bind (fun r10 => some ((100 + r7.1) - r9.1, r10.2))))))) else some ((-1), r3.2)) else some ((-1), r1.2))
set_option maxRecDepth 100000 in
set_option maxHeartbeats 4000000 in
theorem ct_X8_part (l : Launch) (g : dk_G) (x1 : Int32) (x2 : Int32) (x3 : Int32) (x4 : Int32) (S : dk_S)  : dk_M l g yX8_part cX8_part 7 (some .int) 6 134 [.ref (g.1 0), .int x1, .int x2, .int x3, .int x4] S (fX8_part x1 x2 x3 x4 S) dk_qi := by
  refine dk_enter "DuckWalk" (by decide +kernel) rfl (Nat.le_of_ble_eq_true rfl) [(0, .ref (g.1 0)), (1, .int x1), (2, .int x2), (3, .int x3), (4, .int x4)] rfl ?_
  intro p e s m args below meth c C
  unfold fX8_part
  refine dj_iload_n C 1 rfl dX8_part_0 ?_
  refine dj_iload_n C 2 rfl dX8_part_1 ?_
  refine dj_iload_n C 3 rfl dX8_part_2 ?_
  refine dj_callSi (As := [.int x1, .int x2, .int x3]) C dw_X8_104 (ct_X8_noPair l g x1 x2 x3 S) ⟨Nat.le_of_ble_eq_true rfl, Nat.le_of_ble_eq_true rfl⟩ rfl (Nat.le_of_ble_eq_true rfl) rfl dX8_part_3 (fun r1 => ?_)
  refine dj_if_ne (tgt := 19) C dX8_part_6 (by decide) (fun c2 => ?_) (fun c2 => ?_)
  · refine dj_iconst C dX8_part_19 dc_iconst_m1 ?_
    exact dj_iret C dX8_part_20
  · refine dj_iload C 4 rfl dX8_part_9 ?_
    refine dj_iconst C dX8_part_11 dc_iconst_0 ?_
    refine dj_iconst C dX8_part_12 dc_iconst_3 ?_
    refine dj_callSi (As := [.int x4, .int 0, .int 3]) C dw_X8_90 (ct_X8_isOutside l g x4 0 3 r1.2) ⟨Nat.le_of_ble_eq_true rfl, Nat.le_of_ble_eq_true rfl⟩ rfl (Nat.le_of_ble_eq_true rfl) rfl dX8_part_13 (fun r3 => ?_)
    refine dj_if_eq (tgt := 21) C dX8_part_16 (by decide) (fun c4 => ?_) (fun c4 => ?_)
    · refine dj_aload_n C 0 rfl dX8_part_21 ?_
      refine dj_iload_n C 1 rfl dX8_part_22 ?_
      refine dj_iload_n C 2 rfl dX8_part_23 ?_
      refine dj_callVi (t := 8) (As := [.int x1, .int x2]) C dw_X8_263 ⟨_, _, rfl⟩ (by decide) dz_0 (ct_X8_isReady l g x1 x2 r3.2) ⟨Nat.le_of_ble_eq_true rfl, Nat.le_of_ble_eq_true rfl⟩ rfl (Nat.le_of_ble_eq_true rfl) rfl dX8_part_24 (fun r5 => ?_)
      refine dj_if_ne (tgt := 36) C dX8_part_27 (by decide) (fun c6 => ?_) (fun c6 => ?_)
      · refine dj_aload_n C 0 rfl dX8_part_36 ?_
        refine dj_getr (r := 16) (k2 := 16) C dl_X8_54 rfl dz_0 rfl dX8_part_37 ?_
        refine dj_iload_n C 3 rfl dX8_part_40 ?_
        refine dj_callVi (t := 7) (As := [.int x3]) C dw_X8_291 ⟨_, _, rfl⟩ (by decide) dz_16 (ct_X7_span l g x3 r5.2) ⟨Nat.le_of_ble_eq_true rfl, Nat.le_of_ble_eq_true rfl⟩ rfl (Nat.le_of_ble_eq_true rfl) rfl dX8_part_41 (fun r7 => ?_)
        refine dj_istore (lv2 := [(0, .ref (g.1 0)), (3, .int x3), (4, .int x4), (5, .int r7.1)]) C [1, 4, 5, 0] dX8_part_44 (by decide) rfl ?_
        refine dj_aload_n C 0 rfl dX8_part_46 ?_
        refine dj_getr (r := 16) (k2 := 16) C dl_X8_54 rfl dz_0 rfl dX8_part_47 ?_
        refine dj_getr (r := 1) (k2 := 17) C dl_X8_115 rfl dz_16 rfl dX8_part_50 ?_
        refine dj_getr (r := 1) (k2 := 18) C dl_X8_116 rfl dz_17 rfl dX8_part_53 ?_
        refine dj_getr (r := 1) (k2 := 19) C dl_X8_226 rfl dz_18 rfl dX8_part_56 ?_
        refine dj_iload C 2 rfl dX8_part_59 ?_
        refine dj_iconst C dX8_part_61 dc_iconst_1 ?_
        refine dj_iast (n := 6) C dz_19 (by decide) dX8_part_62 (fun S8 => ?_)
        refine dj_aload_n C 0 rfl dX8_part_63 ?_
        refine dj_getr (r := 16) (k2 := 16) C dl_X8_54 rfl dz_0 rfl dX8_part_64 ?_
        refine dj_iload_n C 1 rfl dX8_part_67 ?_
        refine dj_callVi (t := 7) (As := [.int x3]) C dw_X8_291 ⟨_, _, rfl⟩ (by decide) dz_16 (ct_X7_span l g x3 S8) ⟨Nat.le_of_ble_eq_true rfl, Nat.le_of_ble_eq_true rfl⟩ rfl (Nat.le_of_ble_eq_true rfl) rfl dX8_part_68 (fun r9 => ?_)
        refine dj_istore (lv2 := [(0, .ref (g.1 0)), (5, .int r7.1), (6, .int r9.1)]) C [1, 4, 0] dX8_part_71 (by decide) rfl ?_
        refine dj_aload_n C 0 rfl dX8_part_73 ?_
        refine dj_iload C 2 rfl dX8_part_74 ?_
        refine dj_callVi (t := 8) (As := [.int r9.1]) C dw_X8_167 ⟨_, _, rfl⟩ (by decide) dz_0 (ct_X8_tell l g r9.1 r9.2) ⟨Nat.le_of_ble_eq_true rfl, Nat.le_of_ble_eq_true rfl⟩ rfl (Nat.le_of_ble_eq_true rfl) rfl dX8_part_76 (fun r10 => ?_)
        refine dj_pop C dX8_part_79 rfl ?_
        refine dj_bipush C dX8_part_80 dc_bipush_100 ?_
        refine dj_iload C 1 rfl dX8_part_82 ?_
        refine dj_iadd C dX8_part_84 ?_
        refine dj_iload C 2 rfl dX8_part_85 ?_
        refine dj_isub C dX8_part_87 ?_
        exact dj_iret C dX8_part_88
      · refine dj_aload_n C 0 rfl dX8_part_30 ?_
        refine dj_iconst C dX8_part_31 dc_iconst_1 ?_
        refine dj_callVi (t := 8) (As := [.int 1]) C dw_X8_150 ⟨_, _, rfl⟩ (by decide) dz_0 (ct_X8_found l g 1 r5.2) ⟨Nat.le_of_ble_eq_true rfl, Nat.le_of_ble_eq_true rfl⟩ rfl (Nat.le_of_ble_eq_true rfl) rfl dX8_part_32 (fun r11 => ?_)
        exact dj_iret C dX8_part_35
    · refine dj_iconst C dX8_part_19 dc_iconst_m1 ?_
      exact dj_iret C dX8_part_20
noncomputable def fX8_made_L48 (x3 : Int32) (x4 : Int32) (k5 : Nat) : Nat → Int32 → Int32 → Int32 → dk_S → Option (Int32 × dk_S)
  | 0, _, _, _, _ => none
  | n + 1, x6, x7, x8, S => if 27 ≤ x8 then (fX8_tellFraction x7 x6 S).bind (fun r7 => some (x6, r7)) else dk_lt (((S.1 k5 0) + (x8 / 9)) - 1) (fun y8 : Int32 => dk_lt (((S.1 k5 1) + ((x8 / 3) - (x8 / 3) / 3 * 3)) - 1) (fun y9 : Int32 => dk_lt (((S.1 k5 2) + (x8 - x8 / 3 * 3)) - 1) (fun y10 : Int32 => (fX8_isOutside y8 1 9 S).bind (fun r11 => dk_lt (fun t12 : Int32 × Int32 × dk_S => (fX8_made_L48 x3 x4 k5 n t12.1 t12.2.1 (x8 + 1) t12.2.2 : Option (Int32 × dk_S))) (fun k13 => if r11.1 = 0 then (fX8_isOutside y9 1 9 r11.2).bind (fun r15 => if r15.1 = 0 then (fX8_isOutside y10 1 9 r15.2).bind (fun r17 => if r17.1 = 0 then (fX1_shape 18 y8 y9 y10 r17.2).bind (fun r19 => (fX7_walksWell x3 x4 r19).bind (fun r20 => if r20.1 = 0 then k13 (x6 + 1, x7, r20.2) else k13 (x6 + 1, x7 + 1, r20.2))) else k13 (x6, x7, r17.2)) else k13 (x6, x7, r15.2)) else k13 (x6, x7, r11.2))))))
noncomputable def fX8_made (x1 : Int32) (x2 : Int32) (x3 : Int32) (x4 : Int32) (S : dk_S) : Option (Int32 × dk_S) := (fX8_noGoing x1 x2 x3 x4 S).bind (fun r1 => if r1.1 = 0 then (fX8_isReady x1 x2 r1.2).bind (fun r3 => if r3.1 = 0 then (fX8_found 1 r3.2).bind (fun r22 => some (r22.1, r22.2)) else dk_gd (dk_in x1 4) (fX8_made_L48 x3 x4 ((51 + 2 * x1.toNatClampNeg) + 1) dk_FU 0 0 0 r3.2)) else some ((-1), r1.2))
set_option maxRecDepth 100000 in
set_option maxHeartbeats 4000000 in
theorem jX8_made_L48 {p : Program} {l : Launch} {e : Env} {R : Room} {s : State} {m : MethodId} {args : Array Value} {below : List Frame} {meth : Method} {c : Code} {g : dk_G} (C : dk_C p l e R s m args below meth c g cX8_made "DuckWalk" 12 (some .int)) (hR : R = { frames := 5, cells := 0, slots := 0, locals := 111 }) (x3 : Int32) (x4 : Int32) (k5 : Nat) (h5 : dk_kd k5 = 1006)  : ∀ (n : Nat) (x6 : Int32) (x7 : Int32) (x8 : Int32) (S : dk_S), dk_J p l e R s m args below meth c g 12 dk_qi 48 [(0, .ref (g.1 0)), (3, .int x3), (4, .int x4), (5, .ref (g.1 k5)), (6, .int x6), (7, .int x7), (8, .int x8)] [] S (fX8_made_L48 x3 x4 k5 n x6 x7 x8 S) some := by
  subst hR
  intro n
  induction n with
  | zero =>
    intro x6 x7 x8 S
    exact dj_none
  | succ n ih =>
    intro x6 x7 x8 S
    rw [fX8_made_L48]
    refine dj_iload C 6 rfl dX8_made_48 ?_
    refine dj_bipush C dX8_made_50 dc_bipush_27 ?_
    refine dj_icmp_ge (tgt := 177) C dX8_made_52 (by decide) (fun c6 => ?_) (fun c6 => ?_)
    · refine dj_aload_n C 0 rfl dX8_made_177 ?_
      refine dj_iload C 5 rfl dX8_made_178 ?_
      refine dj_iload C 4 rfl dX8_made_180 ?_
      refine dj_callVv (t := 8) (As := [.int x7, .int x6]) C dw_X8_315 ⟨_, _, rfl⟩ (by decide) dz_0 (ct_X8_tellFraction l g x7 x6 S) ⟨Nat.le_of_ble_eq_true rfl, Nat.le_of_ble_eq_true rfl⟩ rfl (Nat.le_of_ble_eq_true rfl) rfl dX8_made_182 (fun r7 => ?_)
      refine dj_iload C 4 rfl dX8_made_185 ?_
      exact dj_iret C dX8_made_187
    · refine dj_aload C 3 rfl dX8_made_55 ?_
      refine dj_iconst C dX8_made_57 dc_iconst_0 ?_
      refine dj_ialdn (n := 6) (j := 0) C h5 (by decide) (by decide) (by decide) dX8_made_58 ?_
      refine dj_iload C 6 rfl dX8_made_59 ?_
      refine dj_bipush C dX8_made_61 dc_bipush_9 ?_
      refine dj_idiv C dX8_made_63 (by decide) ?_
      refine dj_iadd C dX8_made_64 ?_
      refine dj_iconst C dX8_made_65 dc_iconst_1 ?_
      refine dj_isub C dX8_made_66 ?_
      refine dj_lti (fun y8 => ?_)
      refine dj_istore (lv2 := [(0, .ref (g.1 0)), (3, .int x3), (4, .int x4), (5, .ref (g.1 k5)), (6, .int x6), (7, .int x7), (8, .int x8), (9, .int y8)]) C [1, 2, 3, 4, 5, 6, 7, 0] dX8_made_67 (by decide) rfl ?_
      refine dj_aload C 3 rfl dX8_made_69 ?_
      refine dj_iconst C dX8_made_71 dc_iconst_1 ?_
      refine dj_ialdn (n := 6) (j := 1) C h5 (by decide) (by decide) (by decide) dX8_made_72 ?_
      refine dj_iload C 6 rfl dX8_made_73 ?_
      refine dj_iconst C dX8_made_75 dc_iconst_3 ?_
      refine dj_idiv C dX8_made_76 (by decide) ?_
      refine dj_iconst C dX8_made_77 dc_iconst_3 ?_
      refine dj_irem C dX8_made_78 (by decide) ?_
      refine dj_iadd C dX8_made_79 ?_
      refine dj_iconst C dX8_made_80 dc_iconst_1 ?_
      refine dj_isub C dX8_made_81 ?_
      refine dj_lti (fun y9 => ?_)
      refine dj_istore (lv2 := [(0, .ref (g.1 0)), (3, .int x3), (4, .int x4), (5, .ref (g.1 k5)), (6, .int x6), (7, .int x7), (8, .int x8), (9, .int y8), (10, .int y9)]) C [1, 2, 3, 4, 5, 6, 7, 8, 0] dX8_made_82 (by decide) rfl ?_
      refine dj_aload C 3 rfl dX8_made_84 ?_
      refine dj_iconst C dX8_made_86 dc_iconst_2 ?_
      refine dj_ialdn (n := 6) (j := 2) C h5 (by decide) (by decide) (by decide) dX8_made_87 ?_
      refine dj_iload C 6 rfl dX8_made_88 ?_
      refine dj_iconst C dX8_made_90 dc_iconst_3 ?_
      refine dj_irem C dX8_made_91 (by decide) ?_
      refine dj_iadd C dX8_made_92 ?_
      refine dj_iconst C dX8_made_93 dc_iconst_1 ?_
      refine dj_isub C dX8_made_94 ?_
      refine dj_lti (fun y10 => ?_)
      refine dj_istore (lv2 := [(0, .ref (g.1 0)), (3, .int x3), (4, .int x4), (5, .ref (g.1 k5)), (6, .int x6), (7, .int x7), (8, .int x8), (9, .int y8), (10, .int y9), (11, .int y10)]) C [1, 2, 3, 4, 5, 6, 7, 8, 9, 0] dX8_made_95 (by decide) rfl ?_
      refine dj_iload C 7 rfl dX8_made_97 ?_
      refine dj_iconst C dX8_made_99 dc_iconst_1 ?_
      refine dj_bipush C dX8_made_100 dc_bipush_9 ?_
      refine dj_callSi (As := [.int y8, .int 1, .int 9]) C dw_X8_90 (ct_X8_isOutside l g y8 1 9 S) ⟨Nat.le_of_ble_eq_true rfl, Nat.le_of_ble_eq_true rfl⟩ rfl (Nat.le_of_ble_eq_true rfl) rfl dX8_made_102 (fun r11 => ?_)
      refine dj_join 171 (fun t12 : Int32 × Int32 × dk_S => [(0, .ref (g.1 0)), (3, .int x3), (4, .int x4), (5, .ref (g.1 k5)), (6, .int t12.1), (7, .int t12.2.1), (8, .int x8)]) (fun t12 : Int32 × Int32 × dk_S => []) (fun t12 : Int32 × Int32 × dk_S => t12.2.2) (fun t12 => ?_) (fun k13 hk13 => ?_)
      · refine dj_iinc (lv2 := [(0, .ref (g.1 0)), (3, .int x3), (4, .int x4), (5, .ref (g.1 k5)), (6, .int t12.1), (7, .int t12.2.1), (8, .int (x8 + 1))]) C 6 rfl [1, 2, 3, 4, 5, 6, 0] dX8_made_171 dc_iconst_1 (by decide) rfl ?_
        refine dj_goto (tgt := 48) C dX8_made_174 (by decide) ?_
        exact ih t12.1 t12.2.1 (x8 + 1) t12.2.2
      · refine dj_if_ne (tgt := 171) C dX8_made_105 (by decide) (fun c14 => ?_) (fun c14 => ?_)
        · refine dj_sub (lv2 := [(0, .ref (g.1 0)), (3, .int x3), (4, .int x4), (5, .ref (g.1 k5)), (6, .int x6), (7, .int x7), (8, .int x8)]) [0, 1, 2, 3, 4, 5, 6] rfl ?_
          exact hk13 (x6, x7, r11.2)
        · refine dj_iload C 8 rfl dX8_made_108 ?_
          refine dj_iconst C dX8_made_110 dc_iconst_1 ?_
          refine dj_bipush C dX8_made_111 dc_bipush_9 ?_
          refine dj_callSi (As := [.int y9, .int 1, .int 9]) C dw_X8_90 (ct_X8_isOutside l g y9 1 9 r11.2) ⟨Nat.le_of_ble_eq_true rfl, Nat.le_of_ble_eq_true rfl⟩ rfl (Nat.le_of_ble_eq_true rfl) rfl dX8_made_113 (fun r15 => ?_)
          refine dj_if_ne (tgt := 171) C dX8_made_116 (by decide) (fun c16 => ?_) (fun c16 => ?_)
          · refine dj_sub (lv2 := [(0, .ref (g.1 0)), (3, .int x3), (4, .int x4), (5, .ref (g.1 k5)), (6, .int x6), (7, .int x7), (8, .int x8)]) [0, 1, 2, 3, 4, 5, 6] rfl ?_
            exact hk13 (x6, x7, r15.2)
          · refine dj_iload C 9 rfl dX8_made_119 ?_
            refine dj_iconst C dX8_made_121 dc_iconst_1 ?_
            refine dj_bipush C dX8_made_122 dc_bipush_9 ?_
            refine dj_callSi (As := [.int y10, .int 1, .int 9]) C dw_X8_90 (ct_X8_isOutside l g y10 1 9 r15.2) ⟨Nat.le_of_ble_eq_true rfl, Nat.le_of_ble_eq_true rfl⟩ rfl (Nat.le_of_ble_eq_true rfl) rfl dX8_made_124 (fun r17 => ?_)
            refine dj_if_eq (tgt := 133) C dX8_made_127 (by decide) (fun c18 => ?_) (fun c18 => ?_)
            · refine dj_aload_n C 0 rfl dX8_made_133 ?_
              refine dj_getr (r := 16) (k2 := 16) C dl_X8_54 rfl dz_0 rfl dX8_made_134 ?_
              refine dj_getr (r := 1) (k2 := 17) C dl_X8_115 rfl dz_16 rfl dX8_made_137 ?_
              refine dj_getr (r := 1) (k2 := 18) C dl_X8_116 rfl dz_17 rfl dX8_made_140 ?_
              refine dj_iload C 7 rfl dX8_made_143 ?_
              refine dj_iload C 8 rfl dX8_made_145 ?_
              refine dj_iload C 9 rfl dX8_made_147 ?_
              refine dj_callVv (t := 1) (As := [.int y8, .int y9, .int y10]) C dw_X8_318 ⟨_, _, rfl⟩ (by decide) dz_18 (ct_X1_shape l g 18 y8 y9 y10 r17.2 dz_18) ⟨Nat.le_of_ble_eq_true rfl, Nat.le_of_ble_eq_true rfl⟩ rfl (Nat.le_of_ble_eq_true rfl) rfl dX8_made_149 (fun r19 => ?_)
              refine dj_iinc (lv2 := [(0, .ref (g.1 0)), (3, .int x3), (4, .int x4), (5, .ref (g.1 k5)), (6, .int (x6 + 1)), (7, .int x7), (8, .int x8), (9, .int y8), (10, .int y9), (11, .int y10)]) C 4 rfl [1, 2, 3, 4, 0, 5, 6, 7, 8, 9] dX8_made_152 dc_iconst_1 (by decide) rfl ?_
              refine dj_aload_n C 0 rfl dX8_made_155 ?_
              refine dj_getr (r := 16) (k2 := 16) C dl_X8_54 rfl dz_0 rfl dX8_made_156 ?_
              refine dj_iload_n C 1 rfl dX8_made_159 ?_
              refine dj_iload C 2 rfl dX8_made_160 ?_
              refine dj_callVi (t := 7) (As := [.int x3, .int x4]) C dw_X8_285 ⟨_, _, rfl⟩ (by decide) dz_16 (ct_X7_walksWell l g x3 x4 r19) ⟨Nat.le_of_ble_eq_true rfl, Nat.le_of_ble_eq_true rfl⟩ rfl (Nat.le_of_ble_eq_true rfl) rfl dX8_made_162 (fun r20 => ?_)
              refine dj_if_eq (tgt := 171) C dX8_made_165 (by decide) (fun c21 => ?_) (fun c21 => ?_)
              · refine dj_sub (lv2 := [(0, .ref (g.1 0)), (3, .int x3), (4, .int x4), (5, .ref (g.1 k5)), (6, .int (x6 + 1)), (7, .int x7), (8, .int x8)]) [0, 1, 2, 3, 4, 5, 6] rfl ?_
                exact hk13 (x6 + 1, x7, r20.2)
              · refine dj_iinc (lv2 := [(0, .ref (g.1 0)), (3, .int x3), (4, .int x4), (5, .ref (g.1 k5)), (6, .int (x6 + 1)), (7, .int (x7 + 1)), (8, .int x8), (9, .int y8), (10, .int y9), (11, .int y10)]) C 5 rfl [1, 2, 3, 4, 5, 0, 6, 7, 8, 9] dX8_made_168 dc_iconst_1 (by decide) rfl ?_
                refine dj_sub (lv2 := [(0, .ref (g.1 0)), (3, .int x3), (4, .int x4), (5, .ref (g.1 k5)), (6, .int (x6 + 1)), (7, .int (x7 + 1)), (8, .int x8)]) [0, 1, 2, 3, 4, 5, 6] rfl ?_
                exact hk13 (x6 + 1, x7 + 1, r20.2)
            · refine dj_goto (tgt := 171) C dX8_made_130 (by decide) ?_
              refine dj_sub (lv2 := [(0, .ref (g.1 0)), (3, .int x3), (4, .int x4), (5, .ref (g.1 k5)), (6, .int x6), (7, .int x7), (8, .int x8)]) [0, 1, 2, 3, 4, 5, 6] rfl ?_
              exact hk13 (x6, x7, r17.2)
set_option maxRecDepth 100000 in
set_option maxHeartbeats 4000000 in
theorem ct_X8_made (l : Launch) (g : dk_G) (x1 : Int32) (x2 : Int32) (x3 : Int32) (x4 : Int32) (S : dk_S)  : dk_M l g yX8_made cX8_made 12 (some .int) 5 111 [.ref (g.1 0), .int x1, .int x2, .int x3, .int x4] S (fX8_made x1 x2 x3 x4 S) dk_qi := by
  refine dk_enter "DuckWalk" (by decide +kernel) rfl (Nat.le_of_ble_eq_true rfl) [(0, .ref (g.1 0)), (1, .int x1), (2, .int x2), (3, .int x3), (4, .int x4)] rfl ?_
  intro p e s m args below meth c C
  unfold fX8_made
  refine dj_iload_n C 1 rfl dX8_made_0 ?_
  refine dj_iload_n C 2 rfl dX8_made_1 ?_
  refine dj_iload_n C 3 rfl dX8_made_2 ?_
  refine dj_iload C 4 rfl dX8_made_3 ?_
  refine dj_callSi (As := [.int x1, .int x2, .int x3, .int x4]) C dw_X8_229 (ct_X8_noGoing l g x1 x2 x3 x4 S) ⟨Nat.le_of_ble_eq_true rfl, Nat.le_of_ble_eq_true rfl⟩ rfl (Nat.le_of_ble_eq_true rfl) rfl dX8_made_5 (fun r1 => ?_)
  refine dj_if_eq (tgt := 13) C dX8_made_8 (by decide) (fun c2 => ?_) (fun c2 => ?_)
  · refine dj_aload_n C 0 rfl dX8_made_13 ?_
    refine dj_iload_n C 1 rfl dX8_made_14 ?_
    refine dj_iload_n C 2 rfl dX8_made_15 ?_
    refine dj_callVi (t := 8) (As := [.int x1, .int x2]) C dw_X8_263 ⟨_, _, rfl⟩ (by decide) dz_0 (ct_X8_isReady l g x1 x2 r1.2) ⟨Nat.le_of_ble_eq_true rfl, Nat.le_of_ble_eq_true rfl⟩ rfl (Nat.le_of_ble_eq_true rfl) rfl dX8_made_16 (fun r3 => ?_)
    refine dj_if_ne (tgt := 28) C dX8_made_19 (by decide) (fun c4 => ?_) (fun c4 => ?_)
    · refine dj_aload_n C 0 rfl dX8_made_28 ?_
      refine dj_getr (r := 3) (k2 := 3) C dl_X8_23 rfl dz_0 rfl dX8_made_29 ?_
      refine dj_iload_n C 1 rfl dX8_made_32 ?_
      refine dj_aald C dr_52 dz_3 dX8_made_33 (fun hi5 => ?_)
      refine dj_getr (r := 1) (k2 := (51 + 2 * x1.toNatClampNeg) + 1) C dl_X8_226 rfl (dt_52 hi5) rfl dX8_made_34 ?_
      refine dj_astore (lv2 := [(0, .ref (g.1 0)), (3, .int x3), (4, .int x4), (5, .ref (g.1 ((51 + 2 * x1.toNatClampNeg) + 1)))]) C [1, 4, 5, 0] dX8_made_37 (by decide) rfl ?_
      refine dj_iconst C dX8_made_39 dc_iconst_0 ?_
      refine dj_istore (lv2 := [(0, .ref (g.1 0)), (3, .int x3), (4, .int x4), (5, .ref (g.1 ((51 + 2 * x1.toNatClampNeg) + 1))), (6, .int 0)]) C [1, 2, 3, 4, 0] dX8_made_40 (by decide) rfl ?_
      refine dj_iconst C dX8_made_42 dc_iconst_0 ?_
      refine dj_istore (lv2 := [(0, .ref (g.1 0)), (3, .int x3), (4, .int x4), (5, .ref (g.1 ((51 + 2 * x1.toNatClampNeg) + 1))), (6, .int 0), (7, .int 0)]) C [1, 2, 3, 4, 5, 0] dX8_made_43 (by decide) rfl ?_
      refine dj_iconst C dX8_made_45 dc_iconst_0 ?_
      refine dj_istore (lv2 := [(0, .ref (g.1 0)), (3, .int x3), (4, .int x4), (5, .ref (g.1 ((51 + 2 * x1.toNatClampNeg) + 1))), (6, .int 0), (7, .int 0), (8, .int 0)]) C [1, 2, 3, 4, 5, 6, 0] dX8_made_46 (by decide) rfl ?_
      refine jX8_made_L48 C rfl x3 x4 ((51 + 2 * x1.toNatClampNeg) + 1) (dt_1_1 (dt_52 hi5)) dk_FU 0 0 0 r3.2
    · refine dj_aload_n C 0 rfl dX8_made_22 ?_
      refine dj_iconst C dX8_made_23 dc_iconst_1 ?_
      refine dj_callVi (t := 8) (As := [.int 1]) C dw_X8_150 ⟨_, _, rfl⟩ (by decide) dz_0 (ct_X8_found l g 1 r3.2) ⟨Nat.le_of_ble_eq_true rfl, Nat.le_of_ble_eq_true rfl⟩ rfl (Nat.le_of_ble_eq_true rfl) rfl dX8_made_24 (fun r22 => ?_)
      exact dj_iret C dX8_made_27
  · refine dj_iconst C dX8_made_11 dc_iconst_m1 ?_
    exact dj_iret C dX8_made_12
noncomputable def fX8_would_L67 (x3 : Int32) (x4 : Int32) : Nat → Int32 → Int32 → Int32 → dk_S → Option (Int32 × dk_S)
  | 0, _, _, _, _ => none
  | n + 1, x6, x7, x8, S => if x8 < 0 then (fX8_tell x7 S).bind (fun r11 => some (x6, r11.2)) else (fX1_tellUntold 18 x8 S).bind (fun r12 => (fX7_walksWell x3 x4 r12).bind (fun r13 => dk_lt (fun t14 : Int32 × Int32 × dk_S => (fX8_would_L67 x3 x4 n t14.1 t14.2.1 (x8 + (-1)) t14.2.2 : Option (Int32 × dk_S))) (fun k15 => if r13.1 = 0 then k15 (x6, x7, r13.2) else (fX1_asNumber 18 r13.2).bind (fun r17 => k15 (x6 + 1, r17.1, r17.2)))))
noncomputable def fX8_would (x1 : Int32) (x2 : Int32) (x3 : Int32) (x4 : Int32) (S : dk_S) : Option (Int32 × dk_S) := (fX8_noGoing x1 x2 x3 x4 S).bind (fun r1 => if r1.1 = 0 then (fX8_isReady x1 x2 r1.2).bind (fun r3 => if r3.1 = 0 then (fX8_found 1 r3.2).bind (fun r18 => some (r18.1, r18.2)) else dk_gd (dk_in x1 4) ((fJ6_bitCount_0f7a4 (r3.2.1 (51 + 2 * x1.toNatClampNeg) 1) r3.2).bind (fun r6 => if r6.1 ≤ 3 then (fX1_ways (51 + 2 * x1.toNatClampNeg) r6.2).bind (fun r8 => dk_lt (r8.1 - 1) (fun y9 : Int32 => fX8_would_L67 x3 x4 dk_FU 0 (-9) y9 r8.2)) else some ((-6), r6.2)))) else some ((-1), r1.2))
set_option maxRecDepth 100000 in
set_option maxHeartbeats 4000000 in
theorem jX8_would_L67 {p : Program} {l : Launch} {e : Env} {R : Room} {s : State} {m : MethodId} {args : Array Value} {below : List Frame} {meth : Method} {c : Code} {g : dk_G} (C : dk_C p l e R s m args below meth c g cX8_would "DuckWalk" 9 (some .int)) (hR : R = { frames := 5, cells := 0, slots := 0, locals := 111 }) (x3 : Int32) (x4 : Int32)   : ∀ (n : Nat) (x6 : Int32) (x7 : Int32) (x8 : Int32) (S : dk_S), dk_J p l e R s m args below meth c g 9 dk_qi 67 [(0, .ref (g.1 0)), (3, .int x3), (4, .int x4), (6, .int x6), (7, .int x7), (8, .int x8)] [] S (fX8_would_L67 x3 x4 n x6 x7 x8 S) some := by
  subst hR
  intro n
  induction n with
  | zero =>
    intro x6 x7 x8 S
    exact dj_none
  | succ n ih =>
    intro x6 x7 x8 S
    rw [fX8_would_L67]
    refine dj_iload C 5 rfl dX8_would_67 ?_
    refine dj_if_lt (tgt := 124) C dX8_would_69 (by decide) (fun c10 => ?_) (fun c10 => ?_)
    · refine dj_aload_n C 0 rfl dX8_would_124 ?_
      refine dj_iload C 4 rfl dX8_would_125 ?_
      refine dj_callVi (t := 8) (As := [.int x7]) C dw_X8_167 ⟨_, _, rfl⟩ (by decide) dz_0 (ct_X8_tell l g x7 S) ⟨Nat.le_of_ble_eq_true rfl, Nat.le_of_ble_eq_true rfl⟩ rfl (Nat.le_of_ble_eq_true rfl) rfl dX8_would_127 (fun r11 => ?_)
      refine dj_pop C dX8_would_130 rfl ?_
      refine dj_iload C 3 rfl dX8_would_131 ?_
      exact dj_iret C dX8_would_133
    · refine dj_aload_n C 0 rfl dX8_would_72 ?_
      refine dj_getr (r := 16) (k2 := 16) C dl_X8_54 rfl dz_0 rfl dX8_would_73 ?_
      refine dj_getr (r := 1) (k2 := 17) C dl_X8_115 rfl dz_16 rfl dX8_would_76 ?_
      refine dj_getr (r := 1) (k2 := 18) C dl_X8_116 rfl dz_17 rfl dX8_would_79 ?_
      refine dj_iload C 5 rfl dX8_would_82 ?_
      refine dj_callVv (t := 1) (As := [.int x8]) C dw_X8_325 ⟨_, _, rfl⟩ (by decide) dz_18 (ct_X1_tellUntold l g 18 x8 S dz_18) ⟨Nat.le_of_ble_eq_true rfl, Nat.le_of_ble_eq_true rfl⟩ rfl (Nat.le_of_ble_eq_true rfl) rfl dX8_would_84 (fun r12 => ?_)
      refine dj_aload_n C 0 rfl dX8_would_87 ?_
      refine dj_getr (r := 16) (k2 := 16) C dl_X8_54 rfl dz_0 rfl dX8_would_88 ?_
      refine dj_iload_n C 1 rfl dX8_would_91 ?_
      refine dj_iload C 2 rfl dX8_would_92 ?_
      refine dj_callVi (t := 7) (As := [.int x3, .int x4]) C dw_X8_285 ⟨_, _, rfl⟩ (by decide) dz_16 (ct_X7_walksWell l g x3 x4 r12) ⟨Nat.le_of_ble_eq_true rfl, Nat.le_of_ble_eq_true rfl⟩ rfl (Nat.le_of_ble_eq_true rfl) rfl dX8_would_94 (fun r13 => ?_)
      refine dj_join 118 (fun t14 : Int32 × Int32 × dk_S => [(0, .ref (g.1 0)), (3, .int x3), (4, .int x4), (6, .int t14.1), (7, .int t14.2.1), (8, .int x8)]) (fun t14 : Int32 × Int32 × dk_S => []) (fun t14 : Int32 × Int32 × dk_S => t14.2.2) (fun t14 => ?_) (fun k15 hk15 => ?_)
      · refine dj_iinc (lv2 := [(0, .ref (g.1 0)), (3, .int x3), (4, .int x4), (6, .int t14.1), (7, .int t14.2.1), (8, .int (x8 + (-1)))]) C 5 rfl [1, 2, 3, 4, 5, 0] dX8_would_118 dc_iconst_m1 (by decide) rfl ?_
        refine dj_goto (tgt := 67) C dX8_would_121 (by decide) ?_
        exact ih t14.1 t14.2.1 (x8 + (-1)) t14.2.2
      · refine dj_if_eq (tgt := 118) C dX8_would_97 (by decide) (fun c16 => ?_) (fun c16 => ?_)
        · exact hk15 (x6, x7, r13.2)
        · refine dj_iinc (lv2 := [(0, .ref (g.1 0)), (3, .int x3), (4, .int x4), (6, .int (x6 + 1)), (7, .int x7), (8, .int x8)]) C 3 rfl [1, 2, 3, 0, 4, 5] dX8_would_100 dc_iconst_1 (by decide) rfl ?_
          refine dj_aload_n C 0 rfl dX8_would_103 ?_
          refine dj_getr (r := 16) (k2 := 16) C dl_X8_54 rfl dz_0 rfl dX8_would_104 ?_
          refine dj_getr (r := 1) (k2 := 17) C dl_X8_115 rfl dz_16 rfl dX8_would_107 ?_
          refine dj_getr (r := 1) (k2 := 18) C dl_X8_116 rfl dz_17 rfl dX8_would_110 ?_
          refine dj_callVi (t := 1) (As := []) C dw_X8_328 ⟨_, _, rfl⟩ (by decide) dz_18 (ct_X1_asNumber l g 18 r13.2 dz_18) ⟨Nat.le_of_ble_eq_true rfl, Nat.le_of_ble_eq_true rfl⟩ rfl (Nat.le_of_ble_eq_true rfl) rfl dX8_would_113 (fun r17 => ?_)
          refine dj_istore (lv2 := [(0, .ref (g.1 0)), (3, .int x3), (4, .int x4), (6, .int (x6 + 1)), (7, .int r17.1), (8, .int x8)]) C [1, 2, 3, 4, 0, 5] dX8_would_116 (by decide) rfl ?_
          exact hk15 (x6 + 1, r17.1, r17.2)
set_option maxRecDepth 100000 in
set_option maxHeartbeats 4000000 in
theorem ct_X8_would (l : Launch) (g : dk_G) (x1 : Int32) (x2 : Int32) (x3 : Int32) (x4 : Int32) (S : dk_S)  : dk_M l g yX8_would cX8_would 9 (some .int) 5 111 [.ref (g.1 0), .int x1, .int x2, .int x3, .int x4] S (fX8_would x1 x2 x3 x4 S) dk_qi := by
  refine dk_enter "DuckWalk" (by decide +kernel) rfl (Nat.le_of_ble_eq_true rfl) [(0, .ref (g.1 0)), (1, .int x1), (2, .int x2), (3, .int x3), (4, .int x4)] rfl ?_
  intro p e s m args below meth c C
  unfold fX8_would
  refine dj_iload_n C 1 rfl dX8_would_0 ?_
  refine dj_iload_n C 2 rfl dX8_would_1 ?_
  refine dj_iload_n C 3 rfl dX8_would_2 ?_
  refine dj_iload C 4 rfl dX8_would_3 ?_
  refine dj_callSi (As := [.int x1, .int x2, .int x3, .int x4]) C dw_X8_229 (ct_X8_noGoing l g x1 x2 x3 x4 S) ⟨Nat.le_of_ble_eq_true rfl, Nat.le_of_ble_eq_true rfl⟩ rfl (Nat.le_of_ble_eq_true rfl) rfl dX8_would_5 (fun r1 => ?_)
  refine dj_if_eq (tgt := 13) C dX8_would_8 (by decide) (fun c2 => ?_) (fun c2 => ?_)
  · refine dj_aload_n C 0 rfl dX8_would_13 ?_
    refine dj_iload_n C 1 rfl dX8_would_14 ?_
    refine dj_iload_n C 2 rfl dX8_would_15 ?_
    refine dj_callVi (t := 8) (As := [.int x1, .int x2]) C dw_X8_263 ⟨_, _, rfl⟩ (by decide) dz_0 (ct_X8_isReady l g x1 x2 r1.2) ⟨Nat.le_of_ble_eq_true rfl, Nat.le_of_ble_eq_true rfl⟩ rfl (Nat.le_of_ble_eq_true rfl) rfl dX8_would_16 (fun r3 => ?_)
    refine dj_if_ne (tgt := 28) C dX8_would_19 (by decide) (fun c4 => ?_) (fun c4 => ?_)
    · refine dj_aload_n C 0 rfl dX8_would_28 ?_
      refine dj_getr (r := 3) (k2 := 3) C dl_X8_23 rfl dz_0 rfl dX8_would_29 ?_
      refine dj_iload_n C 1 rfl dX8_would_32 ?_
      refine dj_aald C dr_52 dz_3 dX8_would_33 (fun hi5 => ?_)
      refine dj_astore (lv2 := [(0, .ref (g.1 0)), (3, .int x3), (4, .int x4), (5, .ref (g.1 (51 + 2 * x1.toNatClampNeg)))]) C [1, 4, 5, 0] dX8_would_34 (by decide) rfl ?_
      refine dj_aload C 3 rfl dX8_would_36 ?_
      refine dj_geti C dl_X8_205 rfl (dt_52 hi5) dX8_would_38 ?_
      refine dj_callSi (As := [.int (r3.2.1 (51 + 2 * x1.toNatClampNeg) 1)]) C dw_X8_208 (ct_J6_bitCount_0f7a4 l g (r3.2.1 (51 + 2 * x1.toNatClampNeg) 1) r3.2) ⟨Nat.le_of_ble_eq_true rfl, Nat.le_of_ble_eq_true rfl⟩ rfl (Nat.le_of_ble_eq_true rfl) rfl dX8_would_41 (fun r6 => ?_)
      refine dj_iconst C dX8_would_44 dc_iconst_3 ?_
      refine dj_icmp_le (tgt := 51) C dX8_would_45 (by decide) (fun c7 => ?_) (fun c7 => ?_)
      · refine dj_iconst C dX8_would_51 dc_iconst_0 ?_
        refine dj_istore (lv2 := [(0, .ref (g.1 0)), (3, .int x3), (4, .int x4), (5, .ref (g.1 (51 + 2 * x1.toNatClampNeg))), (6, .int 0)]) C [1, 2, 3, 4, 0] dX8_would_52 (by decide) rfl ?_
        refine dj_bipush C dX8_would_54 dc_bipush_m9 ?_
        refine dj_istore (lv2 := [(0, .ref (g.1 0)), (3, .int x3), (4, .int x4), (5, .ref (g.1 (51 + 2 * x1.toNatClampNeg))), (6, .int 0), (7, .int (-9))]) C [1, 2, 3, 4, 5, 0] dX8_would_56 (by decide) rfl ?_
        refine dj_aload C 3 rfl dX8_would_58 ?_
        refine dj_callVi (t := 1) (As := []) C dw_X8_321 ⟨_, _, rfl⟩ (by decide) (dt_52 hi5) (ct_X1_ways l g (51 + 2 * x1.toNatClampNeg) r6.2 (dt_52 hi5)) ⟨Nat.le_of_ble_eq_true rfl, Nat.le_of_ble_eq_true rfl⟩ rfl (Nat.le_of_ble_eq_true rfl) rfl dX8_would_60 (fun r8 => ?_)
        refine dj_iconst C dX8_would_63 dc_iconst_1 ?_
        refine dj_isub C dX8_would_64 ?_
        refine dj_lti (fun y9 => ?_)
        refine dj_istore (lv2 := [(0, .ref (g.1 0)), (3, .int x3), (4, .int x4), (6, .int 0), (7, .int (-9)), (8, .int y9)]) C [1, 2, 3, 5, 6, 0] dX8_would_65 (by decide) rfl ?_
        refine jX8_would_L67 C rfl x3 x4 dk_FU 0 (-9) y9 r8.2
      · refine dj_bipush C dX8_would_48 dc_bipush_m6 ?_
        exact dj_iret C dX8_would_50
    · refine dj_aload_n C 0 rfl dX8_would_22 ?_
      refine dj_iconst C dX8_would_23 dc_iconst_1 ?_
      refine dj_callVi (t := 8) (As := [.int 1]) C dw_X8_150 ⟨_, _, rfl⟩ (by decide) dz_0 (ct_X8_found l g 1 r3.2) ⟨Nat.le_of_ble_eq_true rfl, Nat.le_of_ble_eq_true rfl⟩ rfl (Nat.le_of_ble_eq_true rfl) rfl dX8_would_24 (fun r18 => ?_)
      exact dj_iret C dX8_would_27
  · refine dj_iconst C dX8_would_11 dc_iconst_m1 ?_
    exact dj_iret C dX8_would_12
noncomputable def fX8_yard_L61 (x5 : Int32) : Nat → Int32 → dk_S → Option (Int32 × dk_S)
  | 0, _, _ => none
  | n + 1, x7, S => if 400 < x7 then some ((-9), S) else (fX0_stride 17 S).bind (fun r9 => if r9.1 = 0 then some ((-9), r9.2) else if (r9.2.1 17 9) < x5 then fX8_yard_L61 x5 n (x7 + 1) r9.2 else (fX8_tell (r9.2.1 17 8) r9.2).bind (fun r12 => some (x7, r12.2)))
noncomputable def fX8_yard (x1 : Int32) (x2 : Int32) (x3 : Int32) (x4 : Int32) (x5 : Int32) (S : dk_S) : Option (Int32 × dk_S) := (fX8_noGoing x1 x2 x3 x4 S).bind (fun r1 => if r1.1 = 0 then (fX8_isOutside x5 1 2000 r1.2).bind (fun r3 => if r3.1 = 0 then (fX8_isReady x1 x2 r3.2).bind (fun r5 => if r5.1 = 0 then (fX8_found 1 r5.2).bind (fun r13 => some (r13.1, r13.2)) else (fX0_begin 17 x3 x4 0 r5.2).bind (fun r7 => fX8_yard_L61 x5 dk_FU 1 r7)) else some ((-1), r3.2)) else some ((-1), r1.2))
set_option maxRecDepth 100000 in
set_option maxHeartbeats 4000000 in
theorem jX8_yard_L61 {p : Program} {l : Launch} {e : Env} {R : Room} {s : State} {m : MethodId} {args : Array Value} {below : List Frame} {meth : Method} {c : Code} {g : dk_G} (C : dk_C p l e R s m args below meth c g cX8_yard "DuckWalk" 8 (some .int)) (hR : R = { frames := 4, cells := 0, slots := 0, locals := 87 }) (x5 : Int32)   : ∀ (n : Nat) (x7 : Int32) (S : dk_S), dk_J p l e R s m args below meth c g 8 dk_qi 61 [(0, .ref (g.1 0)), (5, .int x5), (6, .ref (g.1 17)), (7, .int x7)] [] S (fX8_yard_L61 x5 n x7 S) some := by
  subst hR
  intro n
  induction n with
  | zero =>
    intro x7 S
    exact dj_none
  | succ n ih =>
    intro x7 S
    rw [fX8_yard_L61]
    refine dj_iload C 3 rfl dX8_yard_61 ?_
    refine dj_sipush C dX8_yard_63 dc_sipush_400 ?_
    refine dj_icmp_gt (tgt := 106) C dX8_yard_66 (by decide) (fun c8 => ?_) (fun c8 => ?_)
    · refine dj_bipush C dX8_yard_106 dc_bipush_m9 ?_
      exact dj_iret C dX8_yard_108
    · refine dj_aload C 2 rfl dX8_yard_69 ?_
      refine dj_callVi (t := 0) (As := []) C dw_X8_248 ⟨_, _, rfl⟩ (by decide) dz_17 (ct_X0_stride l g 17 S dz_17) ⟨Nat.le_of_ble_eq_true rfl, Nat.le_of_ble_eq_true rfl⟩ rfl (Nat.le_of_ble_eq_true rfl) rfl dX8_yard_71 (fun r9 => ?_)
      refine dj_if_eq (tgt := 106) C dX8_yard_74 (by decide) (fun c10 => ?_) (fun c10 => ?_)
      · refine dj_bipush C dX8_yard_106 dc_bipush_m9 ?_
        exact dj_iret C dX8_yard_108
      · refine dj_aload C 2 rfl dX8_yard_77 ?_
        refine dj_geti C dl_X8_331 rfl dz_17 dX8_yard_79 ?_
        refine dj_iload C 1 rfl dX8_yard_82 ?_
        refine dj_icmp_lt (tgt := 100) C dX8_yard_84 (by decide) (fun c11 => ?_) (fun c11 => ?_)
        · refine dj_iinc (lv2 := [(0, .ref (g.1 0)), (5, .int x5), (6, .ref (g.1 17)), (7, .int (x7 + 1))]) C 3 rfl [1, 2, 3, 0] dX8_yard_100 dc_iconst_1 (by decide) rfl ?_
          refine dj_goto (tgt := 61) C dX8_yard_103 (by decide) ?_
          exact ih (x7 + 1) r9.2
        · refine dj_aload_n C 0 rfl dX8_yard_87 ?_
          refine dj_aload C 2 rfl dX8_yard_88 ?_
          refine dj_geti C dl_X8_334 rfl dz_17 dX8_yard_90 ?_
          refine dj_callVi (t := 8) (As := [.int (r9.2.1 17 8)]) C dw_X8_167 ⟨_, _, rfl⟩ (by decide) dz_0 (ct_X8_tell l g (r9.2.1 17 8) r9.2) ⟨Nat.le_of_ble_eq_true rfl, Nat.le_of_ble_eq_true rfl⟩ rfl (Nat.le_of_ble_eq_true rfl) rfl dX8_yard_93 (fun r12 => ?_)
          refine dj_pop C dX8_yard_96 rfl ?_
          refine dj_iload C 3 rfl dX8_yard_97 ?_
          exact dj_iret C dX8_yard_99
set_option maxRecDepth 100000 in
set_option maxHeartbeats 4000000 in
theorem ct_X8_yard (l : Launch) (g : dk_G) (x1 : Int32) (x2 : Int32) (x3 : Int32) (x4 : Int32) (x5 : Int32) (S : dk_S)  : dk_M l g yX8_yard cX8_yard 8 (some .int) 4 87 [.ref (g.1 0), .int x1, .int x2, .int x3, .int x4, .int x5] S (fX8_yard x1 x2 x3 x4 x5 S) dk_qi := by
  refine dk_enter "DuckWalk" (by decide +kernel) rfl (Nat.le_of_ble_eq_true rfl) [(0, .ref (g.1 0)), (1, .int x1), (2, .int x2), (3, .int x3), (4, .int x4), (5, .int x5)] rfl ?_
  intro p e s m args below meth c C
  unfold fX8_yard
  refine dj_iload_n C 1 rfl dX8_yard_0 ?_
  refine dj_iload_n C 2 rfl dX8_yard_1 ?_
  refine dj_iload_n C 3 rfl dX8_yard_2 ?_
  refine dj_iload C 4 rfl dX8_yard_3 ?_
  refine dj_callSi (As := [.int x1, .int x2, .int x3, .int x4]) C dw_X8_229 (ct_X8_noGoing l g x1 x2 x3 x4 S) ⟨Nat.le_of_ble_eq_true rfl, Nat.le_of_ble_eq_true rfl⟩ rfl (Nat.le_of_ble_eq_true rfl) rfl dX8_yard_5 (fun r1 => ?_)
  refine dj_if_ne (tgt := 23) C dX8_yard_8 (by decide) (fun c2 => ?_) (fun c2 => ?_)
  · refine dj_iconst C dX8_yard_23 dc_iconst_m1 ?_
    exact dj_iret C dX8_yard_24
  · refine dj_iload C 5 rfl dX8_yard_11 ?_
    refine dj_iconst C dX8_yard_13 dc_iconst_1 ?_
    refine dj_sipush C dX8_yard_14 dc_sipush_2000 ?_
    refine dj_callSi (As := [.int x5, .int 1, .int 2000]) C dw_X8_90 (ct_X8_isOutside l g x5 1 2000 r1.2) ⟨Nat.le_of_ble_eq_true rfl, Nat.le_of_ble_eq_true rfl⟩ rfl (Nat.le_of_ble_eq_true rfl) rfl dX8_yard_17 (fun r3 => ?_)
    refine dj_if_eq (tgt := 25) C dX8_yard_20 (by decide) (fun c4 => ?_) (fun c4 => ?_)
    · refine dj_aload_n C 0 rfl dX8_yard_25 ?_
      refine dj_iload_n C 1 rfl dX8_yard_26 ?_
      refine dj_iload_n C 2 rfl dX8_yard_27 ?_
      refine dj_callVi (t := 8) (As := [.int x1, .int x2]) C dw_X8_263 ⟨_, _, rfl⟩ (by decide) dz_0 (ct_X8_isReady l g x1 x2 r3.2) ⟨Nat.le_of_ble_eq_true rfl, Nat.le_of_ble_eq_true rfl⟩ rfl (Nat.le_of_ble_eq_true rfl) rfl dX8_yard_28 (fun r5 => ?_)
      refine dj_if_ne (tgt := 40) C dX8_yard_31 (by decide) (fun c6 => ?_) (fun c6 => ?_)
      · refine dj_aload_n C 0 rfl dX8_yard_40 ?_
        refine dj_getr (r := 16) (k2 := 16) C dl_X8_54 rfl dz_0 rfl dX8_yard_41 ?_
        refine dj_getr (r := 1) (k2 := 17) C dl_X8_115 rfl dz_16 rfl dX8_yard_44 ?_
        refine dj_astore (lv2 := [(0, .ref (g.1 0)), (3, .int x3), (4, .int x4), (5, .int x5), (6, .ref (g.1 17))]) C [1, 4, 5, 6, 0] dX8_yard_47 (by decide) rfl ?_
        refine dj_aload C 4 rfl dX8_yard_49 ?_
        refine dj_iload_n C 1 rfl dX8_yard_51 ?_
        refine dj_iload C 2 rfl dX8_yard_52 ?_
        refine dj_iconst C dX8_yard_54 dc_iconst_0 ?_
        refine dj_callVv (t := 0) (As := [.int x3, .int x4, .int 0]) C dw_X8_233 ⟨_, _, rfl⟩ (by decide) dz_17 (ct_X0_begin l g 17 x3 x4 0 r5.2 dz_17) ⟨Nat.le_of_ble_eq_true rfl, Nat.le_of_ble_eq_true rfl⟩ rfl (Nat.le_of_ble_eq_true rfl) rfl dX8_yard_55 (fun r7 => ?_)
        refine dj_iconst C dX8_yard_58 dc_iconst_1 ?_
        refine dj_istore (lv2 := [(0, .ref (g.1 0)), (5, .int x5), (6, .ref (g.1 17)), (7, .int 1)]) C [1, 4, 5, 0] dX8_yard_59 (by decide) rfl ?_
        refine jX8_yard_L61 C rfl x5 dk_FU 1 r7
      · refine dj_aload_n C 0 rfl dX8_yard_34 ?_
        refine dj_iconst C dX8_yard_35 dc_iconst_1 ?_
        refine dj_callVi (t := 8) (As := [.int 1]) C dw_X8_150 ⟨_, _, rfl⟩ (by decide) dz_0 (ct_X8_found l g 1 r5.2) ⟨Nat.le_of_ble_eq_true rfl, Nat.le_of_ble_eq_true rfl⟩ rfl (Nat.le_of_ble_eq_true rfl) rfl dX8_yard_36 (fun r13 => ?_)
        exact dj_iret C dX8_yard_39
    · refine dj_iconst C dX8_yard_23 dc_iconst_m1 ?_
      exact dj_iret C dX8_yard_24
noncomputable def fX8_leastPush_L18 (k1 : Nat) (x2 : Int32) (x3 : Int32) : Nat → Int32 → dk_S → Option (Int32 × dk_S)
  | 0, _, _ => none
  | n + 1, x5, S => if 99 < x5 then some ((-9), S) else dk_lt (dk_si S 19 4 ((S.1 (k1 + 1) 4) + x5)) (fun S2 => dk_lt (if x3 = 0 then 0 else x5) (fun y3 : Int32 => dk_lt (dk_si S2 19 5 ((S2.1 (k1 + 1) 5) + y3)) (fun S4 => (fX7_find 0 x2 S4).bind (fun r5 => (fX7_isOf 4 r5).bind (fun r6 => dk_lt (fun t7 : Int32 × dk_S => (dk_lt (fun t9 : dk_S => (fX8_leastPush_L18 k1 x2 x3 n (x5 + 1) t9 : Option (Int32 × dk_S))) (fun k10 => if x3 = 0 then if t7.1 = 0 then some (x5, t7.2) else k10 t7.2 else (fX7_isOf 1 t7.2).bind (fun r13 => if r13.1 = 0 then k10 r13.2 else some (x5, r13.2))) : Option (Int32 × dk_S))) (fun k8 => dk_lt (fun t15 : dk_S => (k8 (1, t15) : Option (Int32 × dk_S))) (fun k16 => if r6.1 = 0 then (fX7_isOf 5 r6.2).bind (fun r18 => if r18.1 = 0 then k8 (0, r18.2) else k16 r18.2) else k16 r6.2)))))))
noncomputable def fX8_leastPush (k1 : Nat) (x2 : Int32) (x3 : Int32) (S : dk_S) : Option (Int32 × dk_S) := fX8_leastPush_L18 k1 x2 x3 dk_FU 1 S
set_option maxRecDepth 100000 in
set_option maxHeartbeats 4000000 in
theorem jX8_leastPush_L18 {p : Program} {l : Launch} {e : Env} {R : Room} {s : State} {m : MethodId} {args : Array Value} {below : List Frame} {meth : Method} {c : Code} {g : dk_G} (C : dk_C p l e R s m args below meth c g cX8_leastPush "DuckWalk" 7 (some .int)) (hR : R = { frames := 4, cells := 0, slots := 0, locals := 89 }) (k1 : Nat) (x2 : Int32) (x3 : Int32) (h1 : dk_kd k1 = 1)  : ∀ (n : Nat) (x5 : Int32) (S : dk_S), dk_J p l e R s m args below meth c g 7 dk_qi 18 [(0, .ref (g.1 0)), (1, .ref (g.1 k1)), (2, .int x2), (3, .int x3), (4, .ref (g.1 19)), (5, .int x5)] [] S (fX8_leastPush_L18 k1 x2 x3 n x5 S) some := by
  subst hR
  intro n
  induction n with
  | zero =>
    intro x5 S
    exact dj_none
  | succ n ih =>
    intro x5 S
    rw [fX8_leastPush_L18]
    refine dj_iload C 5 rfl dX8_leastPush_18 ?_
    refine dj_bipush C dX8_leastPush_20 dc_bipush_99 ?_
    refine dj_icmp_gt (tgt := 129) C dX8_leastPush_22 (by decide) (fun c1 => ?_) (fun c1 => ?_)
    · refine dj_bipush C dX8_leastPush_129 dc_bipush_m9 ?_
      exact dj_iret C dX8_leastPush_131
    · refine dj_aload C 4 rfl dX8_leastPush_25 ?_
      refine dj_iconst C dX8_leastPush_27 dc_iconst_4 ?_
      refine dj_aload_n C 1 rfl dX8_leastPush_28 ?_
      refine dj_getr (r := 1) (k2 := k1 + 1) C dl_X8_226 rfl h1 rfl dX8_leastPush_29 ?_
      refine dj_iconst C dX8_leastPush_32 dc_iconst_4 ?_
      refine dj_ialdn (n := 6) (j := 4) C (dt_1_1 h1) (by decide) (by decide) (by decide) dX8_leastPush_33 ?_
      refine dj_iload C 5 rfl dX8_leastPush_34 ?_
      refine dj_iadd C dX8_leastPush_36 ?_
      refine dj_iastn (n := 6) (j := 4) C dz_19 (by decide) (by decide) (by decide) dX8_leastPush_37 (fun S2 => ?_)
      refine dj_aload C 4 rfl dX8_leastPush_38 ?_
      refine dj_iconst C dX8_leastPush_40 dc_iconst_5 ?_
      refine dj_aload_n C 1 rfl dX8_leastPush_41 ?_
      refine dj_getr (r := 1) (k2 := k1 + 1) C dl_X8_226 rfl h1 rfl dX8_leastPush_42 ?_
      refine dj_iconst C dX8_leastPush_45 dc_iconst_5 ?_
      refine dj_ialdn (n := 6) (j := 5) C (dt_1_1 h1) (by decide) (by decide) (by decide) dX8_leastPush_46 ?_
      refine dj_iload_n C 3 rfl dX8_leastPush_47 ?_
      refine dj_dia 57 [.int (S2.1 (k1 + 1) 5), .int 5, .ref (g.1 19)] (fun y3 => ?_) (fun hd3 => ?_)
      · refine dj_iadd C dX8_leastPush_57 ?_
        refine dj_iastn (n := 6) (j := 5) C dz_19 (by decide) (by decide) (by decide) dX8_leastPush_58 (fun S4 => ?_)
        refine dj_aload_n C 0 rfl dX8_leastPush_59 ?_
        refine dj_getr (r := 16) (k2 := 16) C dl_X8_54 rfl dz_0 rfl dX8_leastPush_60 ?_
        refine dj_iconst C dX8_leastPush_63 dc_iconst_0 ?_
        refine dj_iload_n C 2 rfl dX8_leastPush_64 ?_
        refine dj_callVv (t := 7) (As := [.int 0, .int x2]) C dw_X8_266 ⟨_, _, rfl⟩ (by decide) dz_16 (ct_X7_find l g 0 x2 S4) ⟨Nat.le_of_ble_eq_true rfl, Nat.le_of_ble_eq_true rfl⟩ rfl (Nat.le_of_ble_eq_true rfl) rfl dX8_leastPush_65 (fun r5 => ?_)
        refine dj_aload_n C 0 rfl dX8_leastPush_68 ?_
        refine dj_getr (r := 16) (k2 := 16) C dl_X8_54 rfl dz_0 rfl dX8_leastPush_69 ?_
        refine dj_iconst C dX8_leastPush_72 dc_iconst_4 ?_
        refine dj_callVi (t := 7) (As := [.int 4]) C dw_X8_276 ⟨_, _, rfl⟩ (by decide) dz_16 (ct_X7_isOf l g 4 r5) ⟨Nat.le_of_ble_eq_true rfl, Nat.le_of_ble_eq_true rfl⟩ rfl (Nat.le_of_ble_eq_true rfl) rfl dX8_leastPush_73 (fun r6 => ?_)
        refine dj_join 95 (fun t7 : Int32 × dk_S => [(0, .ref (g.1 0)), (1, .ref (g.1 k1)), (2, .int x2), (3, .int x3), (4, .ref (g.1 19)), (5, .int x5)]) (fun t7 : Int32 × dk_S => [.int t7.1]) (fun t7 : Int32 × dk_S => t7.2) (fun t7 => ?_) (fun k8 hk8 => ?_)
        · refine dj_istore (lv2 := [(0, .ref (g.1 0)), (1, .ref (g.1 k1)), (2, .int x2), (3, .int x3), (4, .ref (g.1 19)), (5, .int x5), (6, .int t7.1)]) C [1, 2, 3, 4, 5, 6, 0] dX8_leastPush_95 (by decide) rfl ?_
          refine dj_iload_n C 3 rfl dX8_leastPush_97 ?_
          refine dj_join 123 (fun t9 : dk_S => [(0, .ref (g.1 0)), (1, .ref (g.1 k1)), (2, .int x2), (3, .int x3), (4, .ref (g.1 19)), (5, .int x5)]) (fun t9 : dk_S => []) (fun t9 : dk_S => t9) (fun t9 => ?_) (fun k10 hk10 => ?_)
          · refine dj_iinc (lv2 := [(0, .ref (g.1 0)), (1, .ref (g.1 k1)), (2, .int x2), (3, .int x3), (4, .ref (g.1 19)), (5, .int (x5 + 1))]) C 5 rfl [1, 2, 3, 4, 5, 0] dX8_leastPush_123 dc_iconst_1 (by decide) rfl ?_
            refine dj_goto (tgt := 18) C dX8_leastPush_126 (by decide) ?_
            exact ih (x5 + 1) t9
          · refine dj_if_eq (tgt := 115) C dX8_leastPush_98 (by decide) (fun c11 => ?_) (fun c11 => ?_)
            · refine dj_iload C 6 rfl dX8_leastPush_115 ?_
              refine dj_if_ne (tgt := 123) C dX8_leastPush_117 (by decide) (fun c12 => ?_) (fun c12 => ?_)
              · refine dj_sub (lv2 := [(0, .ref (g.1 0)), (1, .ref (g.1 k1)), (2, .int x2), (3, .int x3), (4, .ref (g.1 19)), (5, .int x5)]) [0, 1, 2, 3, 4, 5] rfl ?_
                exact hk10 t7.2
              · refine dj_iload C 5 rfl dX8_leastPush_120 ?_
                exact dj_iret C dX8_leastPush_122
            · refine dj_aload_n C 0 rfl dX8_leastPush_101 ?_
              refine dj_getr (r := 16) (k2 := 16) C dl_X8_54 rfl dz_0 rfl dX8_leastPush_102 ?_
              refine dj_iconst C dX8_leastPush_105 dc_iconst_1 ?_
              refine dj_callVi (t := 7) (As := [.int 1]) C dw_X8_276 ⟨_, _, rfl⟩ (by decide) dz_16 (ct_X7_isOf l g 1 t7.2) ⟨Nat.le_of_ble_eq_true rfl, Nat.le_of_ble_eq_true rfl⟩ rfl (Nat.le_of_ble_eq_true rfl) rfl dX8_leastPush_106 (fun r13 => ?_)
              refine dj_if_eq (tgt := 123) C dX8_leastPush_109 (by decide) (fun c14 => ?_) (fun c14 => ?_)
              · refine dj_sub (lv2 := [(0, .ref (g.1 0)), (1, .ref (g.1 k1)), (2, .int x2), (3, .int x3), (4, .ref (g.1 19)), (5, .int x5)]) [0, 1, 2, 3, 4, 5] rfl ?_
                exact hk10 r13.2
              · refine dj_goto (tgt := 120) C dX8_leastPush_112 (by decide) ?_
                refine dj_iload C 5 rfl dX8_leastPush_120 ?_
                exact dj_iret C dX8_leastPush_122
        · refine dj_join 90 (fun t15 : dk_S => [(0, .ref (g.1 0)), (1, .ref (g.1 k1)), (2, .int x2), (3, .int x3), (4, .ref (g.1 19)), (5, .int x5)]) (fun t15 : dk_S => []) (fun t15 : dk_S => t15) (fun t15 => ?_) (fun k16 hk16 => ?_)
          · refine dj_iconst C dX8_leastPush_90 dc_iconst_1 ?_
            refine dj_goto (tgt := 95) C dX8_leastPush_91 (by decide) ?_
            exact hk8 (1, t15)
          · refine dj_if_ne (tgt := 90) C dX8_leastPush_76 (by decide) (fun c17 => ?_) (fun c17 => ?_)
            · exact hk16 r6.2
            · refine dj_aload_n C 0 rfl dX8_leastPush_79 ?_
              refine dj_getr (r := 16) (k2 := 16) C dl_X8_54 rfl dz_0 rfl dX8_leastPush_80 ?_
              refine dj_iconst C dX8_leastPush_83 dc_iconst_5 ?_
              refine dj_callVi (t := 7) (As := [.int 5]) C dw_X8_276 ⟨_, _, rfl⟩ (by decide) dz_16 (ct_X7_isOf l g 5 r6.2) ⟨Nat.le_of_ble_eq_true rfl, Nat.le_of_ble_eq_true rfl⟩ rfl (Nat.le_of_ble_eq_true rfl) rfl dX8_leastPush_84 (fun r18 => ?_)
              refine dj_if_eq (tgt := 94) C dX8_leastPush_87 (by decide) (fun c19 => ?_) (fun c19 => ?_)
              · refine dj_iconst C dX8_leastPush_94 dc_iconst_0 ?_
                exact hk8 (0, r18.2)
              · exact hk16 r18.2
      · refine dj_ltite ?_
        refine dj_if_eq (tgt := 56) C dX8_leastPush_48 (by decide) (fun c20 => ?_) (fun c20 => ?_)
        · refine dj_iconst C dX8_leastPush_56 dc_iconst_0 ?_
          exact hd3 _
        · refine dj_iload C 5 rfl dX8_leastPush_51 ?_
          refine dj_goto (tgt := 57) C dX8_leastPush_53 (by decide) ?_
          exact hd3 _
set_option maxRecDepth 100000 in
set_option maxHeartbeats 4000000 in
theorem ct_X8_leastPush (l : Launch) (g : dk_G) (k1 : Nat) (x2 : Int32) (x3 : Int32) (S : dk_S) (h1 : dk_kd k1 = 1) : dk_M l g yX8_leastPush cX8_leastPush 7 (some .int) 4 89 [.ref (g.1 0), .ref (g.1 k1), .int x2, .int x3] S (fX8_leastPush k1 x2 x3 S) dk_qi := by
  refine dk_enter "DuckWalk" (by decide +kernel) rfl (Nat.le_of_ble_eq_true rfl) [(0, .ref (g.1 0)), (1, .ref (g.1 k1)), (2, .int x2), (3, .int x3)] rfl ?_
  intro p e s m args below meth c C
  unfold fX8_leastPush
  refine dj_aload_n C 0 rfl dX8_leastPush_0 ?_
  refine dj_getr (r := 16) (k2 := 16) C dl_X8_54 rfl dz_0 rfl dX8_leastPush_1 ?_
  refine dj_getr (r := 1) (k2 := 17) C dl_X8_115 rfl dz_16 rfl dX8_leastPush_4 ?_
  refine dj_getr (r := 1) (k2 := 18) C dl_X8_116 rfl dz_17 rfl dX8_leastPush_7 ?_
  refine dj_getr (r := 1) (k2 := 19) C dl_X8_226 rfl dz_18 rfl dX8_leastPush_10 ?_
  refine dj_astore (lv2 := [(0, .ref (g.1 0)), (1, .ref (g.1 k1)), (2, .int x2), (3, .int x3), (4, .ref (g.1 19))]) C [1, 2, 3, 4, 0] dX8_leastPush_13 (by decide) rfl ?_
  refine dj_iconst C dX8_leastPush_15 dc_iconst_1 ?_
  refine dj_istore (lv2 := [(0, .ref (g.1 0)), (1, .ref (g.1 k1)), (2, .int x2), (3, .int x3), (4, .ref (g.1 19)), (5, .int 1)]) C [1, 2, 3, 4, 5, 0] dX8_leastPush_16 (by decide) rfl ?_
  refine jX8_leastPush_L18 C rfl k1 x2 x3 h1 dk_FU 1 S
noncomputable def fX8_push (x1 : Int32) (x2 : Int32) (x3 : Int32) (S : dk_S) : Option (Int32 × dk_S) := (fX8_noPair x1 x2 x3 S).bind (fun r1 => if r1.1 = 0 then (fX8_isReady x1 x2 r1.2).bind (fun r3 => if r3.1 = 0 then (fX8_found 1 r3.2).bind (fun r11 => some (r11.1, r11.2)) else dk_gd (dk_in x1 4) ((fX8_leastPush (51 + 2 * x1.toNatClampNeg) x3 1 r3.2).bind (fun r6 => if r6.1 = (-9) then some (r6.1, r6.2) else dk_gd (dk_in x1 4) ((fX8_leastPush (51 + 2 * x1.toNatClampNeg) x3 0 r6.2).bind (fun r9 => (fX8_tell r9.1 r9.2).bind (fun r10 => some (r6.1, r10.2))))))) else some ((-1), r1.2))
set_option maxRecDepth 100000 in
set_option maxHeartbeats 4000000 in
theorem ct_X8_push (l : Launch) (g : dk_G) (x1 : Int32) (x2 : Int32) (x3 : Int32) (S : dk_S)  : dk_M l g yX8_push cX8_push 5 (some .int) 5 115 [.ref (g.1 0), .int x1, .int x2, .int x3] S (fX8_push x1 x2 x3 S) dk_qi := by
  refine dk_enter "DuckWalk" (by decide +kernel) rfl (Nat.le_of_ble_eq_true rfl) [(0, .ref (g.1 0)), (1, .int x1), (2, .int x2), (3, .int x3)] rfl ?_
  intro p e s m args below meth c C
  unfold fX8_push
  refine dj_iload_n C 1 rfl dX8_push_0 ?_
  refine dj_iload_n C 2 rfl dX8_push_1 ?_
  refine dj_iload_n C 3 rfl dX8_push_2 ?_
  refine dj_callSi (As := [.int x1, .int x2, .int x3]) C dw_X8_104 (ct_X8_noPair l g x1 x2 x3 S) ⟨Nat.le_of_ble_eq_true rfl, Nat.le_of_ble_eq_true rfl⟩ rfl (Nat.le_of_ble_eq_true rfl) rfl dX8_push_3 (fun r1 => ?_)
  refine dj_if_eq (tgt := 11) C dX8_push_6 (by decide) (fun c2 => ?_) (fun c2 => ?_)
  · refine dj_aload_n C 0 rfl dX8_push_11 ?_
    refine dj_iload_n C 1 rfl dX8_push_12 ?_
    refine dj_iload_n C 2 rfl dX8_push_13 ?_
    refine dj_callVi (t := 8) (As := [.int x1, .int x2]) C dw_X8_263 ⟨_, _, rfl⟩ (by decide) dz_0 (ct_X8_isReady l g x1 x2 r1.2) ⟨Nat.le_of_ble_eq_true rfl, Nat.le_of_ble_eq_true rfl⟩ rfl (Nat.le_of_ble_eq_true rfl) rfl dX8_push_14 (fun r3 => ?_)
    refine dj_if_ne (tgt := 26) C dX8_push_17 (by decide) (fun c4 => ?_) (fun c4 => ?_)
    · refine dj_aload_n C 0 rfl dX8_push_26 ?_
      refine dj_aload_n C 0 rfl dX8_push_27 ?_
      refine dj_getr (r := 3) (k2 := 3) C dl_X8_23 rfl dz_0 rfl dX8_push_28 ?_
      refine dj_iload_n C 1 rfl dX8_push_31 ?_
      refine dj_aald C dr_52 dz_3 dX8_push_32 (fun hi5 => ?_)
      refine dj_iload_n C 3 rfl dX8_push_33 ?_
      refine dj_iconst C dX8_push_34 dc_iconst_1 ?_
      refine dj_callVi (t := 8) (As := [.ref (g.1 (51 + 2 * x1.toNatClampNeg)), .int x3, .int 1]) C dw_X8_337 ⟨_, _, rfl⟩ (by decide) dz_0 (ct_X8_leastPush l g (51 + 2 * x1.toNatClampNeg) x3 1 r3.2 (dt_52 hi5)) ⟨Nat.le_of_ble_eq_true rfl, Nat.le_of_ble_eq_true rfl⟩ rfl (Nat.le_of_ble_eq_true rfl) rfl dX8_push_35 (fun r6 => ?_)
      refine dj_istore (lv2 := [(0, .ref (g.1 0)), (1, .int x1), (3, .int x3), (4, .int r6.1)]) C [1, 2, 4, 0] dX8_push_38 (by decide) rfl ?_
      refine dj_iload C 3 rfl dX8_push_40 ?_
      refine dj_bipush C dX8_push_42 dc_bipush_m9 ?_
      refine dj_icmp_eq (tgt := 64) C dX8_push_44 (by decide) (fun c7 => ?_) (fun c7 => ?_)
      · refine dj_iload C 3 rfl dX8_push_64 ?_
        exact dj_iret C dX8_push_66
      · refine dj_aload_n C 0 rfl dX8_push_47 ?_
        refine dj_aload_n C 0 rfl dX8_push_48 ?_
        refine dj_aload_n C 0 rfl dX8_push_49 ?_
        refine dj_getr (r := 3) (k2 := 3) C dl_X8_23 rfl dz_0 rfl dX8_push_50 ?_
        refine dj_iload_n C 1 rfl dX8_push_53 ?_
        refine dj_aald C dr_52 dz_3 dX8_push_54 (fun hi8 => ?_)
        refine dj_iload_n C 2 rfl dX8_push_55 ?_
        refine dj_iconst C dX8_push_56 dc_iconst_0 ?_
        refine dj_callVi (t := 8) (As := [.ref (g.1 (51 + 2 * x1.toNatClampNeg)), .int x3, .int 0]) C dw_X8_337 ⟨_, _, rfl⟩ (by decide) dz_0 (ct_X8_leastPush l g (51 + 2 * x1.toNatClampNeg) x3 0 r6.2 (dt_52 hi8)) ⟨Nat.le_of_ble_eq_true rfl, Nat.le_of_ble_eq_true rfl⟩ rfl (Nat.le_of_ble_eq_true rfl) rfl dX8_push_57 (fun r9 => ?_)
        refine dj_callVi (t := 8) (As := [.int r9.1]) C dw_X8_167 ⟨_, _, rfl⟩ (by decide) dz_0 (ct_X8_tell l g r9.1 r9.2) ⟨Nat.le_of_ble_eq_true rfl, Nat.le_of_ble_eq_true rfl⟩ rfl (Nat.le_of_ble_eq_true rfl) rfl dX8_push_60 (fun r10 => ?_)
        refine dj_pop C dX8_push_63 rfl ?_
        refine dj_iload C 3 rfl dX8_push_64 ?_
        exact dj_iret C dX8_push_66
    · refine dj_aload_n C 0 rfl dX8_push_20 ?_
      refine dj_iconst C dX8_push_21 dc_iconst_1 ?_
      refine dj_callVi (t := 8) (As := [.int 1]) C dw_X8_150 ⟨_, _, rfl⟩ (by decide) dz_0 (ct_X8_found l g 1 r3.2) ⟨Nat.le_of_ble_eq_true rfl, Nat.le_of_ble_eq_true rfl⟩ rfl (Nat.le_of_ble_eq_true rfl) rfl dX8_push_22 (fun r11 => ?_)
      exact dj_iret C dX8_push_25
  · refine dj_iconst C dX8_push_9 dc_iconst_m1 ?_
    exact dj_iret C dX8_push_10
noncomputable def fX8_bearsBump (x1 : Int32) (x2 : Int32) (x3 : Int32) (x4 : Int32) (S : dk_S) : Option (Int32 × dk_S) := dk_gd (dk_in x3 100) (dk_lt (dk_si S 21 x3.toNatClampNeg x4) (fun S1 => (fX0_begin 17 x1 x2 0 S1).bind (fun r2 => (fX0_strideOn 17 200 r2).bind (fun r3 => if (r3.2.1 17 7) = 0 then some (1, r3.2) else some (0, r3.2)))))
set_option maxRecDepth 100000 in
set_option maxHeartbeats 4000000 in
theorem ct_X8_bearsBump (l : Launch) (g : dk_G) (x1 : Int32) (x2 : Int32) (x3 : Int32) (x4 : Int32) (S : dk_S)  : dk_M l g yX8_bearsBump cX8_bearsBump 6 (some .boolean) 4 87 [.ref (g.1 0), .int x1, .int x2, .int x3, .int x4] S (fX8_bearsBump x1 x2 x3 x4 S) dk_qi := by
  refine dk_enter "DuckWalk" (by decide +kernel) rfl (Nat.le_of_ble_eq_true rfl) [(0, .ref (g.1 0)), (1, .int x1), (2, .int x2), (3, .int x3), (4, .int x4)] rfl ?_
  intro p e s m args below meth c C
  unfold fX8_bearsBump
  refine dj_aload_n C 0 rfl dX8_bearsBump_0 ?_
  refine dj_getr (r := 16) (k2 := 16) C dl_X8_54 rfl dz_0 rfl dX8_bearsBump_1 ?_
  refine dj_getr (r := 1) (k2 := 17) C dl_X8_115 rfl dz_16 rfl dX8_bearsBump_4 ?_
  refine dj_astore (lv2 := [(1, .int x1), (2, .int x2), (3, .int x3), (4, .int x4), (5, .ref (g.1 17))]) C [2, 3, 4, 5, 0] dX8_bearsBump_7 (by decide) rfl ?_
  refine dj_aload C 4 rfl dX8_bearsBump_9 ?_
  refine dj_getr (r := 3) (k2 := 20) C dl_X8_124 rfl dz_17 rfl dX8_bearsBump_11 ?_
  refine dj_getr (r := 1) (k2 := 21) C dl_X8_344 rfl dz_20 rfl dX8_bearsBump_14 ?_
  refine dj_iload_n C 2 rfl dX8_bearsBump_17 ?_
  refine dj_iload C 3 rfl dX8_bearsBump_18 ?_
  refine dj_iast (n := 100) C dz_21 (by decide) dX8_bearsBump_20 (fun S1 => ?_)
  refine dj_aload C 4 rfl dX8_bearsBump_21 ?_
  refine dj_iload_n C 0 rfl dX8_bearsBump_23 ?_
  refine dj_iload_n C 1 rfl dX8_bearsBump_24 ?_
  refine dj_iconst C dX8_bearsBump_25 dc_iconst_0 ?_
  refine dj_callVv (t := 0) (As := [.int x1, .int x2, .int 0]) C dw_X8_233 ⟨_, _, rfl⟩ (by decide) dz_17 (ct_X0_begin l g 17 x1 x2 0 S1 dz_17) ⟨Nat.le_of_ble_eq_true rfl, Nat.le_of_ble_eq_true rfl⟩ rfl (Nat.le_of_ble_eq_true rfl) rfl dX8_bearsBump_26 (fun r2 => ?_)
  refine dj_aload C 4 rfl dX8_bearsBump_29 ?_
  refine dj_sipush C dX8_bearsBump_31 dc_sipush_200 ?_
  refine dj_callVi (t := 0) (As := [.int 200]) C dw_X8_244 ⟨_, _, rfl⟩ (by decide) dz_17 (ct_X0_strideOn l g 17 200 r2 dz_17) ⟨Nat.le_of_ble_eq_true rfl, Nat.le_of_ble_eq_true rfl⟩ rfl (Nat.le_of_ble_eq_true rfl) rfl dX8_bearsBump_34 (fun r3 => ?_)
  refine dj_pop C dX8_bearsBump_37 rfl ?_
  refine dj_aload C 4 rfl dX8_bearsBump_38 ?_
  refine dj_geti C dl_X8_346 rfl dz_17 dX8_bearsBump_40 ?_
  refine dj_if_ne (tgt := 50) C dX8_bearsBump_43 (by decide) (fun c4 => ?_) (fun c4 => ?_)
  · refine dj_iconst C dX8_bearsBump_50 dc_iconst_0 ?_
    exact dj_zret C rfl dX8_bearsBump_51
  · refine dj_iconst C dX8_bearsBump_46 dc_iconst_1 ?_
    refine dj_goto (tgt := 51) C dX8_bearsBump_47 (by decide) ?_
    exact dj_zret C rfl dX8_bearsBump_51
noncomputable def fX8_bears_L59 (x3 : Int32) (x4 : Int32) (x5 : Int32) : Nat → Int32 → dk_S → Option (Int32 × dk_S)
  | 0, _, _ => none
  | n + 1, x6, S => if x6 ≤ 0 then some (x6, S) else (fX8_bearsBump x3 x4 x5 x6 S).bind (fun r10 => if r10.1 = 0 then fX8_bears_L59 x3 x4 x5 n (x6 + (-1)) r10.2 else some (x6, r10.2))
noncomputable def fX8_bears (x1 : Int32) (x2 : Int32) (x3 : Int32) (x4 : Int32) (x5 : Int32) (S : dk_S) : Option (Int32 × dk_S) := (fX8_noGoing x1 x2 x3 x4 S).bind (fun r1 => if r1.1 = 0 then (fX8_isOutside x5 0 99 r1.2).bind (fun r3 => if r3.1 = 0 then (fX8_isReady x1 x2 r3.2).bind (fun r5 => if r5.1 = 0 then (fX8_found 1 r5.2).bind (fun r12 => some (r12.1, r12.2)) else (fX8_bearsBump x3 x4 x5 0 r5.2).bind (fun r7 => if r7.1 = 0 then some ((-9), r7.2) else fX8_bears_L59 x3 x4 x5 dk_FU 99 r7.2)) else some ((-1), r3.2)) else some ((-1), r1.2))
set_option maxRecDepth 100000 in
set_option maxHeartbeats 4000000 in
theorem jX8_bears_L59 {p : Program} {l : Launch} {e : Env} {R : Room} {s : State} {m : MethodId} {args : Array Value} {below : List Frame} {meth : Method} {c : Code} {g : dk_G} (C : dk_C p l e R s m args below meth c g cX8_bears "DuckWalk" 7 (some .int)) (hR : R = { frames := 5, cells := 0, slots := 0, locals := 112 }) (x3 : Int32) (x4 : Int32) (x5 : Int32)   : ∀ (n : Nat) (x6 : Int32) (S : dk_S), dk_J p l e R s m args below meth c g 7 dk_qi 59 [(0, .ref (g.1 0)), (3, .int x3), (4, .int x4), (5, .int x5), (6, .int x6)] [] S (fX8_bears_L59 x3 x4 x5 n x6 S) some := by
  subst hR
  intro n
  induction n with
  | zero =>
    intro x6 S
    exact dj_none
  | succ n ih =>
    intro x6 S
    rw [fX8_bears_L59]
    refine dj_iload C 4 rfl dX8_bears_59 ?_
    refine dj_if_le (tgt := 84) C dX8_bears_61 (by decide) (fun c9 => ?_) (fun c9 => ?_)
    · refine dj_iload C 4 rfl dX8_bears_84 ?_
      exact dj_iret C dX8_bears_86
    · refine dj_aload_n C 0 rfl dX8_bears_64 ?_
      refine dj_iload_n C 1 rfl dX8_bears_65 ?_
      refine dj_iload C 2 rfl dX8_bears_66 ?_
      refine dj_iload C 3 rfl dX8_bears_68 ?_
      refine dj_iload C 4 rfl dX8_bears_70 ?_
      refine dj_callVi (t := 8) (As := [.int x3, .int x4, .int x5, .int x6]) C dw_X8_341 ⟨_, _, rfl⟩ (by decide) dz_0 (ct_X8_bearsBump l g x3 x4 x5 x6 S) ⟨Nat.le_of_ble_eq_true rfl, Nat.le_of_ble_eq_true rfl⟩ rfl (Nat.le_of_ble_eq_true rfl) rfl dX8_bears_72 (fun r10 => ?_)
      refine dj_if_ne (tgt := 84) C dX8_bears_75 (by decide) (fun c11 => ?_) (fun c11 => ?_)
      · refine dj_iload C 4 rfl dX8_bears_84 ?_
        exact dj_iret C dX8_bears_86
      · refine dj_iinc (lv2 := [(0, .ref (g.1 0)), (3, .int x3), (4, .int x4), (5, .int x5), (6, .int (x6 + (-1)))]) C 4 rfl [1, 2, 3, 4, 0] dX8_bears_78 dc_iconst_m1 (by decide) rfl ?_
        refine dj_goto (tgt := 59) C dX8_bears_81 (by decide) ?_
        exact ih (x6 + (-1)) r10.2
set_option maxRecDepth 100000 in
set_option maxHeartbeats 4000000 in
theorem ct_X8_bears (l : Launch) (g : dk_G) (x1 : Int32) (x2 : Int32) (x3 : Int32) (x4 : Int32) (x5 : Int32) (S : dk_S)  : dk_M l g yX8_bears cX8_bears 7 (some .int) 5 112 [.ref (g.1 0), .int x1, .int x2, .int x3, .int x4, .int x5] S (fX8_bears x1 x2 x3 x4 x5 S) dk_qi := by
  refine dk_enter "DuckWalk" (by decide +kernel) rfl (Nat.le_of_ble_eq_true rfl) [(0, .ref (g.1 0)), (1, .int x1), (2, .int x2), (3, .int x3), (4, .int x4), (5, .int x5)] rfl ?_
  intro p e s m args below meth c C
  unfold fX8_bears
  refine dj_iload_n C 1 rfl dX8_bears_0 ?_
  refine dj_iload_n C 2 rfl dX8_bears_1 ?_
  refine dj_iload_n C 3 rfl dX8_bears_2 ?_
  refine dj_iload C 4 rfl dX8_bears_3 ?_
  refine dj_callSi (As := [.int x1, .int x2, .int x3, .int x4]) C dw_X8_229 (ct_X8_noGoing l g x1 x2 x3 x4 S) ⟨Nat.le_of_ble_eq_true rfl, Nat.le_of_ble_eq_true rfl⟩ rfl (Nat.le_of_ble_eq_true rfl) rfl dX8_bears_5 (fun r1 => ?_)
  refine dj_if_ne (tgt := 22) C dX8_bears_8 (by decide) (fun c2 => ?_) (fun c2 => ?_)
  · refine dj_iconst C dX8_bears_22 dc_iconst_m1 ?_
    exact dj_iret C dX8_bears_23
  · refine dj_iload C 5 rfl dX8_bears_11 ?_
    refine dj_iconst C dX8_bears_13 dc_iconst_0 ?_
    refine dj_bipush C dX8_bears_14 dc_bipush_99 ?_
    refine dj_callSi (As := [.int x5, .int 0, .int 99]) C dw_X8_90 (ct_X8_isOutside l g x5 0 99 r1.2) ⟨Nat.le_of_ble_eq_true rfl, Nat.le_of_ble_eq_true rfl⟩ rfl (Nat.le_of_ble_eq_true rfl) rfl dX8_bears_16 (fun r3 => ?_)
    refine dj_if_eq (tgt := 24) C dX8_bears_19 (by decide) (fun c4 => ?_) (fun c4 => ?_)
    · refine dj_aload_n C 0 rfl dX8_bears_24 ?_
      refine dj_iload_n C 1 rfl dX8_bears_25 ?_
      refine dj_iload_n C 2 rfl dX8_bears_26 ?_
      refine dj_callVi (t := 8) (As := [.int x1, .int x2]) C dw_X8_263 ⟨_, _, rfl⟩ (by decide) dz_0 (ct_X8_isReady l g x1 x2 r3.2) ⟨Nat.le_of_ble_eq_true rfl, Nat.le_of_ble_eq_true rfl⟩ rfl (Nat.le_of_ble_eq_true rfl) rfl dX8_bears_27 (fun r5 => ?_)
      refine dj_if_ne (tgt := 39) C dX8_bears_30 (by decide) (fun c6 => ?_) (fun c6 => ?_)
      · refine dj_aload_n C 0 rfl dX8_bears_39 ?_
        refine dj_iload_n C 3 rfl dX8_bears_40 ?_
        refine dj_iload C 4 rfl dX8_bears_41 ?_
        refine dj_iload C 5 rfl dX8_bears_43 ?_
        refine dj_iconst C dX8_bears_45 dc_iconst_0 ?_
        refine dj_callVi (t := 8) (As := [.int x3, .int x4, .int x5, .int 0]) C dw_X8_341 ⟨_, _, rfl⟩ (by decide) dz_0 (ct_X8_bearsBump l g x3 x4 x5 0 r5.2) ⟨Nat.le_of_ble_eq_true rfl, Nat.le_of_ble_eq_true rfl⟩ rfl (Nat.le_of_ble_eq_true rfl) rfl dX8_bears_46 (fun r7 => ?_)
        refine dj_if_ne (tgt := 55) C dX8_bears_49 (by decide) (fun c8 => ?_) (fun c8 => ?_)
        · refine dj_bipush C dX8_bears_55 dc_bipush_99 ?_
          refine dj_istore (lv2 := [(0, .ref (g.1 0)), (3, .int x3), (4, .int x4), (5, .int x5), (6, .int 99)]) C [1, 4, 5, 6, 0] dX8_bears_57 (by decide) rfl ?_
          refine jX8_bears_L59 C rfl x3 x4 x5 dk_FU 99 r7.2
        · refine dj_bipush C dX8_bears_52 dc_bipush_m9 ?_
          exact dj_iret C dX8_bears_54
      · refine dj_aload_n C 0 rfl dX8_bears_33 ?_
        refine dj_iconst C dX8_bears_34 dc_iconst_1 ?_
        refine dj_callVi (t := 8) (As := [.int 1]) C dw_X8_150 ⟨_, _, rfl⟩ (by decide) dz_0 (ct_X8_found l g 1 r5.2) ⟨Nat.le_of_ble_eq_true rfl, Nat.le_of_ble_eq_true rfl⟩ rfl (Nat.le_of_ble_eq_true rfl) rfl dX8_bears_35 (fun r12 => ?_)
        exact dj_iret C dX8_bears_38
    · refine dj_iconst C dX8_bears_22 dc_iconst_m1 ?_
      exact dj_iret C dX8_bears_23
noncomputable def fX8_meets_L114  : Nat → Int32 → dk_S → Option (Int32 × dk_S)
  | 0, _, _ => none
  | n + 1, x6, S => if 400 < x6 then some ((-9), S) else (fX0_stride 17 S).bind (fun r16 => (fX0_stride 24 r16.2).bind (fun r17 => if (r17.2.1 17 7) = 0 then if (r17.2.1 24 7) = 0 then if (r17.2.1 17 4) = (r17.2.1 24 4) then some (x6, r17.2) else fX8_meets_L114 n (x6 + 1) r17.2 else some ((-9), r17.2) else some ((-9), r17.2)))
noncomputable def fX8_meets (x1 : Int32) (x2 : Int32) (x3 : Int32) (x4 : Int32) (x5 : Int32) (S : dk_S) : Option (Int32 × dk_S) := (fX8_noGoing x1 x3 x4 x5 S).bind (fun r1 => if r1.1 = 0 then (fX8_noWalker x2 r1.2).bind (fun r3 => if r3.1 = 0 then dk_gd (dk_in x2 4) (if (r3.2.1 (51 + 2 * x2.toNatClampNeg) 2) = 0 then (fX8_found 1 r3.2).bind (fun r7 => some (r7.1, r7.2)) else (fX8_isReady x1 x3 r3.2).bind (fun r8 => if r8.1 = 0 then (fX8_found 1 r8.2).bind (fun r21 => some (r21.1, r21.2)) else dk_gd (dk_in x2 4) ((fX1_take 25 (51 + 2 * x2.toNatClampNeg) r8.2).bind (fun r11 => (fX3_take 27 20 r11).bind (fun r12 => (fX0_begin 17 x4 x5 0 r12).bind (fun r13 => (fX0_begin 24 x4 x5 0 r13).bind (fun r14 => fX8_meets_L114 dk_FU 1 r14))))))) else some ((-1), r3.2)) else some ((-1), r1.2))
set_option maxRecDepth 100000 in
set_option maxHeartbeats 4000000 in
theorem jX8_meets_L114 {p : Program} {l : Launch} {e : Env} {R : Room} {s : State} {m : MethodId} {args : Array Value} {below : List Frame} {meth : Method} {c : Code} {g : dk_G} (C : dk_C p l e R s m args below meth c g cX8_meets "DuckWalk" 7 (some .int)) (hR : R = { frames := 4, cells := 0, slots := 0, locals := 87 })    : ∀ (n : Nat) (x6 : Int32) (S : dk_S), dk_J p l e R s m args below meth c g 7 dk_qi 114 [(0, .ref (g.1 0)), (6, .int x6)] [] S (fX8_meets_L114 n x6 S) some := by
  subst hR
  intro n
  induction n with
  | zero =>
    intro x6 S
    exact dj_none
  | succ n ih =>
    intro x6 S
    rw [fX8_meets_L114]
    refine dj_iload C 1 rfl dX8_meets_114 ?_
    refine dj_sipush C dX8_meets_116 dc_sipush_400 ?_
    refine dj_icmp_gt (tgt := 196) C dX8_meets_119 (by decide) (fun c15 => ?_) (fun c15 => ?_)
    · refine dj_bipush C dX8_meets_196 dc_bipush_m9 ?_
      exact dj_iret C dX8_meets_198
    · refine dj_aload_n C 0 rfl dX8_meets_122 ?_
      refine dj_getr (r := 16) (k2 := 16) C dl_X8_54 rfl dz_0 rfl dX8_meets_123 ?_
      refine dj_getr (r := 1) (k2 := 17) C dl_X8_115 rfl dz_16 rfl dX8_meets_126 ?_
      refine dj_callVi (t := 0) (As := []) C dw_X8_248 ⟨_, _, rfl⟩ (by decide) dz_17 (ct_X0_stride l g 17 S dz_17) ⟨Nat.le_of_ble_eq_true rfl, Nat.le_of_ble_eq_true rfl⟩ rfl (Nat.le_of_ble_eq_true rfl) rfl dX8_meets_129 (fun r16 => ?_)
      refine dj_pop C dX8_meets_132 rfl ?_
      refine dj_aload_n C 0 rfl dX8_meets_133 ?_
      refine dj_getr (r := 24) (k2 := 24) C dl_X8_58 rfl dz_0 rfl dX8_meets_134 ?_
      refine dj_callVi (t := 0) (As := []) C dw_X8_248 ⟨_, _, rfl⟩ (by decide) dz_24 (ct_X0_stride l g 24 r16.2 dz_24) ⟨Nat.le_of_ble_eq_true rfl, Nat.le_of_ble_eq_true rfl⟩ rfl (Nat.le_of_ble_eq_true rfl) rfl dX8_meets_137 (fun r17 => ?_)
      refine dj_pop C dX8_meets_140 rfl ?_
      refine dj_aload_n C 0 rfl dX8_meets_141 ?_
      refine dj_getr (r := 16) (k2 := 16) C dl_X8_54 rfl dz_0 rfl dX8_meets_142 ?_
      refine dj_getr (r := 1) (k2 := 17) C dl_X8_115 rfl dz_16 rfl dX8_meets_145 ?_
      refine dj_geti C dl_X8_346 rfl dz_17 dX8_meets_148 ?_
      refine dj_if_ne (tgt := 164) C dX8_meets_151 (by decide) (fun c18 => ?_) (fun c18 => ?_)
      · refine dj_bipush C dX8_meets_164 dc_bipush_m9 ?_
        exact dj_iret C dX8_meets_166
      · refine dj_aload_n C 0 rfl dX8_meets_154 ?_
        refine dj_getr (r := 24) (k2 := 24) C dl_X8_58 rfl dz_0 rfl dX8_meets_155 ?_
        refine dj_geti C dl_X8_346 rfl dz_24 dX8_meets_158 ?_
        refine dj_if_eq (tgt := 167) C dX8_meets_161 (by decide) (fun c19 => ?_) (fun c19 => ?_)
        · refine dj_aload_n C 0 rfl dX8_meets_167 ?_
          refine dj_getr (r := 16) (k2 := 16) C dl_X8_54 rfl dz_0 rfl dX8_meets_168 ?_
          refine dj_getr (r := 1) (k2 := 17) C dl_X8_115 rfl dz_16 rfl dX8_meets_171 ?_
          refine dj_geti C dl_X8_251 rfl dz_17 dX8_meets_174 ?_
          refine dj_aload_n C 0 rfl dX8_meets_177 ?_
          refine dj_getr (r := 24) (k2 := 24) C dl_X8_58 rfl dz_0 rfl dX8_meets_178 ?_
          refine dj_geti C dl_X8_251 rfl dz_24 dX8_meets_181 ?_
          refine dj_icmp_ne (tgt := 190) C dX8_meets_184 (by decide) (fun c20 => ?_) (fun c20 => ?_)
          · refine dj_iinc (lv2 := [(0, .ref (g.1 0)), (6, .int (x6 + 1))]) C 1 rfl [1, 0] dX8_meets_190 dc_iconst_1 (by decide) rfl ?_
            refine dj_goto (tgt := 114) C dX8_meets_193 (by decide) ?_
            exact ih (x6 + 1) r17.2
          · refine dj_iload C 1 rfl dX8_meets_187 ?_
            exact dj_iret C dX8_meets_189
        · refine dj_bipush C dX8_meets_164 dc_bipush_m9 ?_
          exact dj_iret C dX8_meets_166
set_option maxRecDepth 100000 in
set_option maxHeartbeats 4000000 in
theorem ct_X8_meets (l : Launch) (g : dk_G) (x1 : Int32) (x2 : Int32) (x3 : Int32) (x4 : Int32) (x5 : Int32) (S : dk_S)  : dk_M l g yX8_meets cX8_meets 7 (some .int) 4 87 [.ref (g.1 0), .int x1, .int x2, .int x3, .int x4, .int x5] S (fX8_meets x1 x2 x3 x4 x5 S) dk_qi := by
  refine dk_enter "DuckWalk" (by decide +kernel) rfl (Nat.le_of_ble_eq_true rfl) [(0, .ref (g.1 0)), (1, .int x1), (2, .int x2), (3, .int x3), (4, .int x4), (5, .int x5)] rfl ?_
  intro p e s m args below meth c C
  unfold fX8_meets
  refine dj_iload_n C 1 rfl dX8_meets_0 ?_
  refine dj_iload_n C 3 rfl dX8_meets_1 ?_
  refine dj_iload C 4 rfl dX8_meets_2 ?_
  refine dj_iload C 5 rfl dX8_meets_4 ?_
  refine dj_callSi (As := [.int x1, .int x3, .int x4, .int x5]) C dw_X8_229 (ct_X8_noGoing l g x1 x3 x4 x5 S) ⟨Nat.le_of_ble_eq_true rfl, Nat.le_of_ble_eq_true rfl⟩ rfl (Nat.le_of_ble_eq_true rfl) rfl dX8_meets_6 (fun r1 => ?_)
  refine dj_if_ne (tgt := 19) C dX8_meets_9 (by decide) (fun c2 => ?_) (fun c2 => ?_)
  · refine dj_iconst C dX8_meets_19 dc_iconst_m1 ?_
    exact dj_iret C dX8_meets_20
  · refine dj_iload_n C 2 rfl dX8_meets_12 ?_
    refine dj_callSi (As := [.int x2]) C dw_X8_94 (ct_X8_noWalker l g x2 r1.2) ⟨Nat.le_of_ble_eq_true rfl, Nat.le_of_ble_eq_true rfl⟩ rfl (Nat.le_of_ble_eq_true rfl) rfl dX8_meets_13 (fun r3 => ?_)
    refine dj_if_eq (tgt := 21) C dX8_meets_16 (by decide) (fun c4 => ?_) (fun c4 => ?_)
    · refine dj_aload_n C 0 rfl dX8_meets_21 ?_
      refine dj_getr (r := 3) (k2 := 3) C dl_X8_23 rfl dz_0 rfl dX8_meets_22 ?_
      refine dj_iload_n C 2 rfl dX8_meets_25 ?_
      refine dj_aald C dr_52 dz_3 dX8_meets_26 (fun hi5 => ?_)
      refine dj_geti C dl_X8_110 rfl (dt_52 hi5) dX8_meets_27 ?_
      refine dj_if_eq (tgt := 42) C dX8_meets_30 (by decide) (fun c6 => ?_) (fun c6 => ?_)
      · refine dj_aload_n C 0 rfl dX8_meets_42 ?_
        refine dj_iconst C dX8_meets_43 dc_iconst_1 ?_
        refine dj_callVi (t := 8) (As := [.int 1]) C dw_X8_150 ⟨_, _, rfl⟩ (by decide) dz_0 (ct_X8_found l g 1 r3.2) ⟨Nat.le_of_ble_eq_true rfl, Nat.le_of_ble_eq_true rfl⟩ rfl (Nat.le_of_ble_eq_true rfl) rfl dX8_meets_44 (fun r7 => ?_)
        exact dj_iret C dX8_meets_47
      · refine dj_aload_n C 0 rfl dX8_meets_33 ?_
        refine dj_iload_n C 1 rfl dX8_meets_34 ?_
        refine dj_iload_n C 3 rfl dX8_meets_35 ?_
        refine dj_callVi (t := 8) (As := [.int x1, .int x3]) C dw_X8_263 ⟨_, _, rfl⟩ (by decide) dz_0 (ct_X8_isReady l g x1 x3 r3.2) ⟨Nat.le_of_ble_eq_true rfl, Nat.le_of_ble_eq_true rfl⟩ rfl (Nat.le_of_ble_eq_true rfl) rfl dX8_meets_36 (fun r8 => ?_)
        refine dj_if_ne (tgt := 48) C dX8_meets_39 (by decide) (fun c9 => ?_) (fun c9 => ?_)
        · refine dj_aload_n C 0 rfl dX8_meets_48 ?_
          refine dj_getr (r := 24) (k2 := 24) C dl_X8_58 rfl dz_0 rfl dX8_meets_49 ?_
          refine dj_getr (r := 1) (k2 := 25) C dl_X8_116 rfl dz_24 rfl dX8_meets_52 ?_
          refine dj_aload_n C 0 rfl dX8_meets_55 ?_
          refine dj_getr (r := 3) (k2 := 3) C dl_X8_23 rfl dz_0 rfl dX8_meets_56 ?_
          refine dj_iload_n C 2 rfl dX8_meets_59 ?_
          refine dj_aald C dr_52 dz_3 dX8_meets_60 (fun hi10 => ?_)
          refine dj_callVv (t := 1) (As := [.ref (g.1 (51 + 2 * x2.toNatClampNeg))]) C dw_X8_120 ⟨_, _, rfl⟩ (by decide) dz_25 (ct_X1_take l g 25 (51 + 2 * x2.toNatClampNeg) r8.2 dz_25 (dt_52 hi10)) ⟨Nat.le_of_ble_eq_true rfl, Nat.le_of_ble_eq_true rfl⟩ rfl (Nat.le_of_ble_eq_true rfl) rfl dX8_meets_61 (fun r11 => ?_)
          refine dj_aload_n C 0 rfl dX8_meets_64 ?_
          refine dj_getr (r := 24) (k2 := 24) C dl_X8_58 rfl dz_0 rfl dX8_meets_65 ?_
          refine dj_getr (r := 3) (k2 := 27) C dl_X8_124 rfl dz_24 rfl dX8_meets_68 ?_
          refine dj_aload_n C 0 rfl dX8_meets_71 ?_
          refine dj_getr (r := 16) (k2 := 16) C dl_X8_54 rfl dz_0 rfl dX8_meets_72 ?_
          refine dj_getr (r := 1) (k2 := 17) C dl_X8_115 rfl dz_16 rfl dX8_meets_75 ?_
          refine dj_getr (r := 3) (k2 := 20) C dl_X8_124 rfl dz_17 rfl dX8_meets_78 ?_
          refine dj_callVv (t := 3) (As := [.ref (g.1 20)]) C dw_X8_214 ⟨_, _, rfl⟩ (by decide) dz_27 (ct_X3_take l g 27 20 r11 dz_27 dz_20) ⟨Nat.le_of_ble_eq_true rfl, Nat.le_of_ble_eq_true rfl⟩ rfl (Nat.le_of_ble_eq_true rfl) rfl dX8_meets_81 (fun r12 => ?_)
          refine dj_aload_n C 0 rfl dX8_meets_84 ?_
          refine dj_getr (r := 16) (k2 := 16) C dl_X8_54 rfl dz_0 rfl dX8_meets_85 ?_
          refine dj_getr (r := 1) (k2 := 17) C dl_X8_115 rfl dz_16 rfl dX8_meets_88 ?_
          refine dj_iload C 4 rfl dX8_meets_91 ?_
          refine dj_iload C 5 rfl dX8_meets_93 ?_
          refine dj_iconst C dX8_meets_95 dc_iconst_0 ?_
          refine dj_callVv (t := 0) (As := [.int x4, .int x5, .int 0]) C dw_X8_233 ⟨_, _, rfl⟩ (by decide) dz_17 (ct_X0_begin l g 17 x4 x5 0 r12 dz_17) ⟨Nat.le_of_ble_eq_true rfl, Nat.le_of_ble_eq_true rfl⟩ rfl (Nat.le_of_ble_eq_true rfl) rfl dX8_meets_96 (fun r13 => ?_)
          refine dj_aload_n C 0 rfl dX8_meets_99 ?_
          refine dj_getr (r := 24) (k2 := 24) C dl_X8_58 rfl dz_0 rfl dX8_meets_100 ?_
          refine dj_iload C 4 rfl dX8_meets_103 ?_
          refine dj_iload C 5 rfl dX8_meets_105 ?_
          refine dj_iconst C dX8_meets_107 dc_iconst_0 ?_
          refine dj_callVv (t := 0) (As := [.int x4, .int x5, .int 0]) C dw_X8_233 ⟨_, _, rfl⟩ (by decide) dz_24 (ct_X0_begin l g 24 x4 x5 0 r13 dz_24) ⟨Nat.le_of_ble_eq_true rfl, Nat.le_of_ble_eq_true rfl⟩ rfl (Nat.le_of_ble_eq_true rfl) rfl dX8_meets_108 (fun r14 => ?_)
          refine dj_iconst C dX8_meets_111 dc_iconst_1 ?_
          refine dj_istore (lv2 := [(0, .ref (g.1 0)), (6, .int 1)]) C [1, 0] dX8_meets_112 (by decide) rfl ?_
          refine jX8_meets_L114 C rfl dk_FU 1 r14
        · refine dj_aload_n C 0 rfl dX8_meets_42 ?_
          refine dj_iconst C dX8_meets_43 dc_iconst_1 ?_
          refine dj_callVi (t := 8) (As := [.int 1]) C dw_X8_150 ⟨_, _, rfl⟩ (by decide) dz_0 (ct_X8_found l g 1 r8.2) ⟨Nat.le_of_ble_eq_true rfl, Nat.le_of_ble_eq_true rfl⟩ rfl (Nat.le_of_ble_eq_true rfl) rfl dX8_meets_44 (fun r21 => ?_)
          exact dj_iret C dX8_meets_47
    · refine dj_iconst C dX8_meets_19 dc_iconst_m1 ?_
      exact dj_iret C dX8_meets_20
noncomputable def fX8_asked  (S : dk_S) : Option (Int32 × dk_S) := some (S.1 0 12, S)
set_option maxRecDepth 100000 in
set_option maxHeartbeats 4000000 in
theorem ct_X8_asked (l : Launch) (g : dk_G)  (S : dk_S)  : dk_M l g yX8_asked cX8_asked 1 (some .int) 0 0 [.ref (g.1 0)] S (fX8_asked  S) dk_qi := by
  refine dk_enter "DuckWalk" (by decide +kernel) rfl (Nat.le_of_ble_eq_true rfl) [(0, .ref (g.1 0))] rfl ?_
  intro p e s m args below meth c C
  unfold fX8_asked
  refine dj_aload_n C 0 rfl dX8_asked_0 ?_
  refine dj_geti C dl_X8_76 rfl dz_0 dX8_asked_1 ?_
  exact dj_iret C dX8_asked_4
noncomputable def fX8_upper  (S : dk_S) : Option (Int64 × dk_S) := some (S.2 0 13, S)
set_option maxRecDepth 100000 in
set_option maxHeartbeats 4000000 in
theorem ct_X8_upper (l : Launch) (g : dk_G)  (S : dk_S)  : dk_M l g yX8_upper cX8_upper 1 (some .long) 0 0 [.ref (g.1 0)] S (fX8_upper  S) dk_ql := by
  refine dk_enter "DuckWalk" (by decide +kernel) rfl (Nat.le_of_ble_eq_true rfl) [(0, .ref (g.1 0))] rfl ?_
  intro p e s m args below meth c C
  unfold fX8_upper
  refine dj_aload_n C 0 rfl dX8_upper_0 ?_
  refine dj_getl C dl_X8_79 rfl dz_0 dX8_upper_1 ?_
  exact dj_lret C dX8_upper_4
noncomputable def fX8_lower  (S : dk_S) : Option (Int64 × dk_S) := some (S.2 0 14, S)
set_option maxRecDepth 100000 in
set_option maxHeartbeats 4000000 in
theorem ct_X8_lower (l : Launch) (g : dk_G)  (S : dk_S)  : dk_M l g yX8_lower cX8_lower 1 (some .long) 0 0 [.ref (g.1 0)] S (fX8_lower  S) dk_ql := by
  refine dk_enter "DuckWalk" (by decide +kernel) rfl (Nat.le_of_ble_eq_true rfl) [(0, .ref (g.1 0))] rfl ?_
  intro p e s m args below meth c C
  unfold fX8_lower
  refine dj_aload_n C 0 rfl dX8_lower_0 ?_
  refine dj_getl C dl_X8_83 rfl dz_0 dX8_lower_1 ?_
  exact dj_lret C dX8_lower_4
noncomputable def fX8_countDucks_L4 (x1 : Int32) : Nat → Int32 → Int32 → dk_S → Option (Int32 × dk_S)
  | 0, _, _, _ => none
  | n + 1, x2, x3, S => if 4 ≤ x3 then some (x2, S) else dk_gd (dk_in x3 4) (dk_lt (fun t3 : Int32 × dk_S => (fX8_countDucks_L4 x1 n t3.1 (x3 + 1) t3.2 : Option (Int32 × dk_S))) (fun k4 => if (S.1 (51 + 2 * x3.toNatClampNeg) 2) = 0 then k4 (x2, S) else dk_lt (fun t6 : dk_S => (k4 (x2 + 1, t6) : Option (Int32 × dk_S))) (fun k7 => if x1 = 0 then k7 S else dk_gd (dk_in x3 4) (if (S.1 (51 + 2 * x3.toNatClampNeg) 1) = 0 then k4 (x2, S) else k7 S))))
noncomputable def fX8_countDucks (x1 : Int32) (S : dk_S) : Option (Int32 × dk_S) := fX8_countDucks_L4 x1 dk_FU 0 0 S
set_option maxRecDepth 100000 in
set_option maxHeartbeats 4000000 in
theorem jX8_countDucks_L4 {p : Program} {l : Launch} {e : Env} {R : Room} {s : State} {m : MethodId} {args : Array Value} {below : List Frame} {meth : Method} {c : Code} {g : dk_G} (C : dk_C p l e R s m args below meth c g cX8_countDucks "DuckWalk" 4 (some .int)) (hR : R = { frames := 0, cells := 0, slots := 0, locals := 0 }) (x1 : Int32)   : ∀ (n : Nat) (x2 : Int32) (x3 : Int32) (S : dk_S), dk_J p l e R s m args below meth c g 4 dk_qi 4 [(0, .ref (g.1 0)), (1, .int x1), (2, .int x2), (3, .int x3)] [] S (fX8_countDucks_L4 x1 n x2 x3 S) some := by
  subst hR
  intro n
  induction n with
  | zero =>
    intro x2 x3 S
    exact dj_none
  | succ n ih =>
    intro x2 x3 S
    rw [fX8_countDucks_L4]
    refine dj_iload_n C 3 rfl dX8_countDucks_4 ?_
    refine dj_iconst C dX8_countDucks_5 dc_iconst_4 ?_
    refine dj_icmp_ge (tgt := 46) C dX8_countDucks_6 (by decide) (fun c1 => ?_) (fun c1 => ?_)
    · refine dj_iload_n C 2 rfl dX8_countDucks_46 ?_
      exact dj_iret C dX8_countDucks_47
    · refine dj_aload_n C 0 rfl dX8_countDucks_9 ?_
      refine dj_getr (r := 3) (k2 := 3) C dl_X8_23 rfl dz_0 rfl dX8_countDucks_10 ?_
      refine dj_iload_n C 3 rfl dX8_countDucks_13 ?_
      refine dj_aald C dr_52 dz_3 dX8_countDucks_14 (fun hi2 => ?_)
      refine dj_geti C dl_X8_110 rfl (dt_52 hi2) dX8_countDucks_15 ?_
      refine dj_join 40 (fun t3 : Int32 × dk_S => [(0, .ref (g.1 0)), (1, .int x1), (2, .int t3.1), (3, .int x3)]) (fun t3 : Int32 × dk_S => []) (fun t3 : Int32 × dk_S => t3.2) (fun t3 => ?_) (fun k4 hk4 => ?_)
      · refine dj_iinc (lv2 := [(0, .ref (g.1 0)), (1, .int x1), (2, .int t3.1), (3, .int (x3 + 1))]) C 3 rfl [1, 2, 3, 0] dX8_countDucks_40 dc_iconst_1 (by decide) rfl ?_
        refine dj_goto (tgt := 4) C dX8_countDucks_43 (by decide) ?_
        exact ih t3.1 (x3 + 1) t3.2
      · refine dj_if_eq (tgt := 40) C dX8_countDucks_18 (by decide) (fun c5 => ?_) (fun c5 => ?_)
        · exact hk4 (x2, S)
        · refine dj_iload_n C 1 rfl dX8_countDucks_21 ?_
          refine dj_join 37 (fun t6 : dk_S => [(0, .ref (g.1 0)), (1, .int x1), (2, .int x2), (3, .int x3)]) (fun t6 : dk_S => []) (fun t6 : dk_S => t6) (fun t6 => ?_) (fun k7 hk7 => ?_)
          · refine dj_iinc (lv2 := [(0, .ref (g.1 0)), (1, .int x1), (2, .int (x2 + 1)), (3, .int x3)]) C 2 rfl [1, 2, 0, 3] dX8_countDucks_37 dc_iconst_1 (by decide) rfl ?_
            exact hk4 (x2 + 1, t6)
          · refine dj_if_eq (tgt := 37) C dX8_countDucks_22 (by decide) (fun c8 => ?_) (fun c8 => ?_)
            · exact hk7 S
            · refine dj_aload_n C 0 rfl dX8_countDucks_25 ?_
              refine dj_getr (r := 3) (k2 := 3) C dl_X8_23 rfl dz_0 rfl dX8_countDucks_26 ?_
              refine dj_iload_n C 3 rfl dX8_countDucks_29 ?_
              refine dj_aald C dr_52 dz_3 dX8_countDucks_30 (fun hi9 => ?_)
              refine dj_geti C dl_X8_205 rfl (dt_52 hi9) dX8_countDucks_31 ?_
              refine dj_if_eq (tgt := 40) C dX8_countDucks_34 (by decide) (fun c10 => ?_) (fun c10 => ?_)
              · exact hk4 (x2, S)
              · exact hk7 S
set_option maxRecDepth 100000 in
set_option maxHeartbeats 4000000 in
theorem ct_X8_countDucks (l : Launch) (g : dk_G) (x1 : Int32) (S : dk_S)  : dk_M l g yX8_countDucks cX8_countDucks 4 (some .int) 0 0 [.ref (g.1 0), .int x1] S (fX8_countDucks x1 S) dk_qi := by
  refine dk_enter "DuckWalk" (by decide +kernel) rfl (Nat.le_of_ble_eq_true rfl) [(0, .ref (g.1 0)), (1, .int x1)] rfl ?_
  intro p e s m args below meth c C
  unfold fX8_countDucks
  refine dj_iconst C dX8_countDucks_0 dc_iconst_0 ?_
  refine dj_istore_n (lv2 := [(0, .ref (g.1 0)), (1, .int x1), (2, .int 0)]) C [1, 2, 0] dX8_countDucks_1 rfl (by decide) rfl ?_
  refine dj_iconst C dX8_countDucks_2 dc_iconst_0 ?_
  refine dj_istore_n (lv2 := [(0, .ref (g.1 0)), (1, .int x1), (2, .int 0), (3, .int 0)]) C [1, 2, 3, 0] dX8_countDucks_3 rfl (by decide) rfl ?_
  refine jX8_countDucks_L4 C rfl x1 dk_FU 0 0 S
