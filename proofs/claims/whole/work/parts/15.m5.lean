noncomputable def fX8_countKept_L4  : Nat → Int32 → Int32 → dk_S → Option (Int32 × dk_S)
  | 0, _, _, _ => none
  | n + 1, x1, x2, S => if 3 ≤ x2 then some (x1, S) else dk_gd (dk_in x2 3) (dk_lt (if (S.1 (67 + 5 * x2.toNatClampNeg) 2) = 0 then 0 else 1) (fun y3 : Int32 => dk_lt (x1 + y3) (fun y4 : Int32 => fX8_countKept_L4 n y4 (x2 + 1) S)))
noncomputable def fX8_countKept  (S : dk_S) : Option (Int32 × dk_S) := fX8_countKept_L4 dk_FU 0 0 S
set_option maxRecDepth 100000 in
set_option maxHeartbeats 4000000 in
theorem jX8_countKept_L4 {p : Program} {l : Launch} {e : Env} {R : Room} {s : State} {m : MethodId} {args : Array Value} {below : List Frame} {meth : Method} {c : Code} {g : dk_G} (C : dk_C p l e R s m args below meth c g cX8_countKept "DuckWalk" 3 (some .int)) (hR : R = { frames := 0, cells := 0, slots := 0, locals := 0 })    : ∀ (n : Nat) (x1 : Int32) (x2 : Int32) (S : dk_S), dk_J p l e R s m args below meth c g 3 dk_qi 4 [(0, .ref (g.1 0)), (1, .int x1), (2, .int x2)] [] S (fX8_countKept_L4 n x1 x2 S) some := by
  subst hR
  intro n
  induction n with
  | zero =>
    intro x1 x2 S
    exact dj_none
  | succ n ih =>
    intro x1 x2 S
    rw [fX8_countKept_L4]
    refine dj_iload_n C 2 rfl dX8_countKept_4 ?_
    refine dj_iconst C dX8_countKept_5 dc_iconst_3 ?_
    refine dj_icmp_ge (tgt := 35) C dX8_countKept_6 (by decide) (fun c1 => ?_) (fun c1 => ?_)
    · refine dj_iload_n C 1 rfl dX8_countKept_35 ?_
      exact dj_iret C dX8_countKept_36
    · refine dj_iload_n C 1 rfl dX8_countKept_9 ?_
      refine dj_aload_n C 0 rfl dX8_countKept_10 ?_
      refine dj_getr (r := 10) (k2 := 10) C dl_X8_40 rfl dz_0 rfl dX8_countKept_11 ?_
      refine dj_iload_n C 2 rfl dX8_countKept_14 ?_
      refine dj_aald C dr_54 dz_10 dX8_countKept_15 (fun hi2 => ?_)
      refine dj_geti C dl_X8_237 rfl (dt_54 hi2) dX8_countKept_16 ?_
      refine dj_dia 27 [.int x1] (fun y3 => ?_) (fun hd3 => ?_)
      · refine dj_iadd C dX8_countKept_27 ?_
        refine dj_lti (fun y4 => ?_)
        refine dj_istore_n (lv2 := [(0, .ref (g.1 0)), (1, .int y4), (2, .int x2)]) C [1, 0, 2] dX8_countKept_28 rfl (by decide) rfl ?_
        refine dj_iinc (lv2 := [(0, .ref (g.1 0)), (1, .int y4), (2, .int (x2 + 1))]) C 2 rfl [1, 2, 0] dX8_countKept_29 dc_iconst_1 (by decide) rfl ?_
        refine dj_goto (tgt := 4) C dX8_countKept_32 (by decide) ?_
        exact ih y4 (x2 + 1) S
      · refine dj_ltite ?_
        refine dj_if_eq (tgt := 26) C dX8_countKept_19 (by decide) (fun c5 => ?_) (fun c5 => ?_)
        · refine dj_iconst C dX8_countKept_26 dc_iconst_0 ?_
          exact hd3 _
        · refine dj_iconst C dX8_countKept_22 dc_iconst_1 ?_
          refine dj_goto (tgt := 27) C dX8_countKept_23 (by decide) ?_
          exact hd3 _
set_option maxRecDepth 100000 in
set_option maxHeartbeats 4000000 in
theorem ct_X8_countKept (l : Launch) (g : dk_G)  (S : dk_S)  : dk_M l g yX8_countKept cX8_countKept 3 (some .int) 0 0 [.ref (g.1 0)] S (fX8_countKept  S) dk_qi := by
  refine dk_enter "DuckWalk" (by decide +kernel) rfl (Nat.le_of_ble_eq_true rfl) [(0, .ref (g.1 0))] rfl ?_
  intro p e s m args below meth c C
  unfold fX8_countKept
  refine dj_iconst C dX8_countKept_0 dc_iconst_0 ?_
  refine dj_istore_n (lv2 := [(0, .ref (g.1 0)), (1, .int 0)]) C [1, 0] dX8_countKept_1 rfl (by decide) rfl ?_
  refine dj_iconst C dX8_countKept_2 dc_iconst_0 ?_
  refine dj_istore_n (lv2 := [(0, .ref (g.1 0)), (1, .int 0), (2, .int 0)]) C [1, 2, 0] dX8_countKept_3 rfl (by decide) rfl ?_
  refine jX8_countKept_L4 C rfl dk_FU 0 0 S
noncomputable def fX8_countPlanks_L4  : Nat → Int32 → Int32 → dk_S → Option (Int32 × dk_S)
  | 0, _, _, _ => none
  | n + 1, x1, x2, S => if 4 ≤ x2 then some (x1, S) else dk_gd (dk_in x2 4) (dk_lt (if (S.1 (59 + 2 * x2.toNatClampNeg) 2) = 0 then 0 else 1) (fun y3 : Int32 => dk_lt (x1 + y3) (fun y4 : Int32 => fX8_countPlanks_L4 n y4 (x2 + 1) S)))
noncomputable def fX8_countPlanks  (S : dk_S) : Option (Int32 × dk_S) := fX8_countPlanks_L4 dk_FU 0 0 S
set_option maxRecDepth 100000 in
set_option maxHeartbeats 4000000 in
theorem jX8_countPlanks_L4 {p : Program} {l : Launch} {e : Env} {R : Room} {s : State} {m : MethodId} {args : Array Value} {below : List Frame} {meth : Method} {c : Code} {g : dk_G} (C : dk_C p l e R s m args below meth c g cX8_countPlanks "DuckWalk" 3 (some .int)) (hR : R = { frames := 0, cells := 0, slots := 0, locals := 0 })    : ∀ (n : Nat) (x1 : Int32) (x2 : Int32) (S : dk_S), dk_J p l e R s m args below meth c g 3 dk_qi 4 [(0, .ref (g.1 0)), (1, .int x1), (2, .int x2)] [] S (fX8_countPlanks_L4 n x1 x2 S) some := by
  subst hR
  intro n
  induction n with
  | zero =>
    intro x1 x2 S
    exact dj_none
  | succ n ih =>
    intro x1 x2 S
    rw [fX8_countPlanks_L4]
    refine dj_iload_n C 2 rfl dX8_countPlanks_4 ?_
    refine dj_iconst C dX8_countPlanks_5 dc_iconst_4 ?_
    refine dj_icmp_ge (tgt := 35) C dX8_countPlanks_6 (by decide) (fun c1 => ?_) (fun c1 => ?_)
    · refine dj_iload_n C 1 rfl dX8_countPlanks_35 ?_
      exact dj_iret C dX8_countPlanks_36
    · refine dj_iload_n C 1 rfl dX8_countPlanks_9 ?_
      refine dj_aload_n C 0 rfl dX8_countPlanks_10 ?_
      refine dj_getr (r := 4) (k2 := 4) C dl_X8_29 rfl dz_0 rfl dX8_countPlanks_11 ?_
      refine dj_iload_n C 2 rfl dX8_countPlanks_14 ?_
      refine dj_aald C dr_53 dz_4 dX8_countPlanks_15 (fun hi2 => ?_)
      refine dj_geti C dl_X8_114 rfl (dt_53 hi2) dX8_countPlanks_16 ?_
      refine dj_dia 27 [.int x1] (fun y3 => ?_) (fun hd3 => ?_)
      · refine dj_iadd C dX8_countPlanks_27 ?_
        refine dj_lti (fun y4 => ?_)
        refine dj_istore_n (lv2 := [(0, .ref (g.1 0)), (1, .int y4), (2, .int x2)]) C [1, 0, 2] dX8_countPlanks_28 rfl (by decide) rfl ?_
        refine dj_iinc (lv2 := [(0, .ref (g.1 0)), (1, .int y4), (2, .int (x2 + 1))]) C 2 rfl [1, 2, 0] dX8_countPlanks_29 dc_iconst_1 (by decide) rfl ?_
        refine dj_goto (tgt := 4) C dX8_countPlanks_32 (by decide) ?_
        exact ih y4 (x2 + 1) S
      · refine dj_ltite ?_
        refine dj_if_eq (tgt := 26) C dX8_countPlanks_19 (by decide) (fun c5 => ?_) (fun c5 => ?_)
        · refine dj_iconst C dX8_countPlanks_26 dc_iconst_0 ?_
          exact hd3 _
        · refine dj_iconst C dX8_countPlanks_22 dc_iconst_1 ?_
          refine dj_goto (tgt := 27) C dX8_countPlanks_23 (by decide) ?_
          exact hd3 _
set_option maxRecDepth 100000 in
set_option maxHeartbeats 4000000 in
theorem ct_X8_countPlanks (l : Launch) (g : dk_G)  (S : dk_S)  : dk_M l g yX8_countPlanks cX8_countPlanks 3 (some .int) 0 0 [.ref (g.1 0)] S (fX8_countPlanks  S) dk_qi := by
  refine dk_enter "DuckWalk" (by decide +kernel) rfl (Nat.le_of_ble_eq_true rfl) [(0, .ref (g.1 0))] rfl ?_
  intro p e s m args below meth c C
  unfold fX8_countPlanks
  refine dj_iconst C dX8_countPlanks_0 dc_iconst_0 ?_
  refine dj_istore_n (lv2 := [(0, .ref (g.1 0)), (1, .int 0)]) C [1, 0] dX8_countPlanks_1 rfl (by decide) rfl ?_
  refine dj_iconst C dX8_countPlanks_2 dc_iconst_0 ?_
  refine dj_istore_n (lv2 := [(0, .ref (g.1 0)), (1, .int 0), (2, .int 0)]) C [1, 2, 0] dX8_countPlanks_3 rfl (by decide) rfl ?_
  refine jX8_countPlanks_L4 C rfl dk_FU 0 0 S
noncomputable def fX8_countRows_L4  : Nat → Int32 → Int32 → dk_S → Option (Int32 × dk_S)
  | 0, _, _, _ => none
  | n + 1, x1, x2, S => if 6 ≤ x2 then some (x1, S) else dk_gd (dk_in x2 6) ((fX5_isMissing (31 + 2 * x2.toNatClampNeg) S).bind (fun r3 => dk_lt (if r3.1 = 0 then 1 else 0) (fun y4 : Int32 => dk_lt (x1 + y4) (fun y5 : Int32 => fX8_countRows_L4 n y5 (x2 + 1) r3.2))))
noncomputable def fX8_countRows  (S : dk_S) : Option (Int32 × dk_S) := fX8_countRows_L4 dk_FU 0 0 S
set_option maxRecDepth 100000 in
set_option maxHeartbeats 4000000 in
theorem jX8_countRows_L4 {p : Program} {l : Launch} {e : Env} {R : Room} {s : State} {m : MethodId} {args : Array Value} {below : List Frame} {meth : Method} {c : Code} {g : dk_G} (C : dk_C p l e R s m args below meth c g cX8_countRows "DuckWalk" 3 (some .int)) (hR : R = { frames := 1, cells := 0, slots := 0, locals := 20 })    : ∀ (n : Nat) (x1 : Int32) (x2 : Int32) (S : dk_S), dk_J p l e R s m args below meth c g 3 dk_qi 4 [(0, .ref (g.1 0)), (1, .int x1), (2, .int x2)] [] S (fX8_countRows_L4 n x1 x2 S) some := by
  subst hR
  intro n
  induction n with
  | zero =>
    intro x1 x2 S
    exact dj_none
  | succ n ih =>
    intro x1 x2 S
    rw [fX8_countRows_L4]
    refine dj_iload_n C 2 rfl dX8_countRows_4 ?_
    refine dj_bipush C dX8_countRows_5 dc_bipush_6 ?_
    refine dj_icmp_ge (tgt := 36) C dX8_countRows_7 (by decide) (fun c1 => ?_) (fun c1 => ?_)
    · refine dj_iload_n C 1 rfl dX8_countRows_36 ?_
      exact dj_iret C dX8_countRows_37
    · refine dj_iload_n C 1 rfl dX8_countRows_10 ?_
      refine dj_aload_n C 0 rfl dX8_countRows_11 ?_
      refine dj_getr (r := 1) (k2 := 1) C dl_X8_11 rfl dz_0 rfl dX8_countRows_12 ?_
      refine dj_iload_n C 2 rfl dX8_countRows_15 ?_
      refine dj_aald C dr_50 dz_1 dX8_countRows_16 (fun hi2 => ?_)
      refine dj_callVi (t := 5) (As := []) C dw_X8_157 ⟨_, _, rfl⟩ (by decide) (dt_50 hi2) (ct_X5_isMissing l g (31 + 2 * x2.toNatClampNeg) S (dt_50 hi2)) ⟨Nat.le_of_ble_eq_true rfl, Nat.le_of_ble_eq_true rfl⟩ rfl (Nat.le_of_ble_eq_true rfl) rfl dX8_countRows_17 (fun r3 => ?_)
      refine dj_dia 28 [.int x1] (fun y4 => ?_) (fun hd4 => ?_)
      · refine dj_iadd C dX8_countRows_28 ?_
        refine dj_lti (fun y5 => ?_)
        refine dj_istore_n (lv2 := [(0, .ref (g.1 0)), (1, .int y5), (2, .int x2)]) C [1, 0, 2] dX8_countRows_29 rfl (by decide) rfl ?_
        refine dj_iinc (lv2 := [(0, .ref (g.1 0)), (1, .int y5), (2, .int (x2 + 1))]) C 2 rfl [1, 2, 0] dX8_countRows_30 dc_iconst_1 (by decide) rfl ?_
        refine dj_goto (tgt := 4) C dX8_countRows_33 (by decide) ?_
        exact ih y5 (x2 + 1) r3.2
      · refine dj_ltite ?_
        refine dj_if_eq (tgt := 27) C dX8_countRows_20 (by decide) (fun c6 => ?_) (fun c6 => ?_)
        · refine dj_iconst C dX8_countRows_27 dc_iconst_1 ?_
          exact hd4 _
        · refine dj_iconst C dX8_countRows_23 dc_iconst_0 ?_
          refine dj_goto (tgt := 28) C dX8_countRows_24 (by decide) ?_
          exact hd4 _
set_option maxRecDepth 100000 in
set_option maxHeartbeats 4000000 in
theorem ct_X8_countRows (l : Launch) (g : dk_G)  (S : dk_S)  : dk_M l g yX8_countRows cX8_countRows 3 (some .int) 1 20 [.ref (g.1 0)] S (fX8_countRows  S) dk_qi := by
  refine dk_enter "DuckWalk" (by decide +kernel) rfl (Nat.le_of_ble_eq_true rfl) [(0, .ref (g.1 0))] rfl ?_
  intro p e s m args below meth c C
  unfold fX8_countRows
  refine dj_iconst C dX8_countRows_0 dc_iconst_0 ?_
  refine dj_istore_n (lv2 := [(0, .ref (g.1 0)), (1, .int 0)]) C [1, 0] dX8_countRows_1 rfl (by decide) rfl ?_
  refine dj_iconst C dX8_countRows_2 dc_iconst_0 ?_
  refine dj_istore_n (lv2 := [(0, .ref (g.1 0)), (1, .int 0), (2, .int 0)]) C [1, 2, 0] dX8_countRows_3 rfl (by decide) rfl ?_
  refine jX8_countRows_L4 C rfl dk_FU 0 0 S
noncomputable def fX8_countScripts_L4  : Nat → Int32 → Int32 → dk_S → Option (Int32 × dk_S)
  | 0, _, _, _ => none
  | n + 1, x1, x2, S => if 4 ≤ x2 then some (x1, S) else dk_gd (dk_in x2 4) ((fX6_isMissing (43 + 2 * x2.toNatClampNeg) S).bind (fun r3 => dk_lt (if r3.1 = 0 then 1 else 0) (fun y4 : Int32 => dk_lt (x1 + y4) (fun y5 : Int32 => fX8_countScripts_L4 n y5 (x2 + 1) r3.2))))
noncomputable def fX8_countScripts  (S : dk_S) : Option (Int32 × dk_S) := fX8_countScripts_L4 dk_FU 0 0 S
set_option maxRecDepth 100000 in
set_option maxHeartbeats 4000000 in
theorem jX8_countScripts_L4 {p : Program} {l : Launch} {e : Env} {R : Room} {s : State} {m : MethodId} {args : Array Value} {below : List Frame} {meth : Method} {c : Code} {g : dk_G} (C : dk_C p l e R s m args below meth c g cX8_countScripts "DuckWalk" 3 (some .int)) (hR : R = { frames := 1, cells := 0, slots := 0, locals := 20 })    : ∀ (n : Nat) (x1 : Int32) (x2 : Int32) (S : dk_S), dk_J p l e R s m args below meth c g 3 dk_qi 4 [(0, .ref (g.1 0)), (1, .int x1), (2, .int x2)] [] S (fX8_countScripts_L4 n x1 x2 S) some := by
  subst hR
  intro n
  induction n with
  | zero =>
    intro x1 x2 S
    exact dj_none
  | succ n ih =>
    intro x1 x2 S
    rw [fX8_countScripts_L4]
    refine dj_iload_n C 2 rfl dX8_countScripts_4 ?_
    refine dj_iconst C dX8_countScripts_5 dc_iconst_4 ?_
    refine dj_icmp_ge (tgt := 35) C dX8_countScripts_6 (by decide) (fun c1 => ?_) (fun c1 => ?_)
    · refine dj_iload_n C 1 rfl dX8_countScripts_35 ?_
      exact dj_iret C dX8_countScripts_36
    · refine dj_iload_n C 1 rfl dX8_countScripts_9 ?_
      refine dj_aload_n C 0 rfl dX8_countScripts_10 ?_
      refine dj_getr (r := 2) (k2 := 2) C dl_X8_17 rfl dz_0 rfl dX8_countScripts_11 ?_
      refine dj_iload_n C 2 rfl dX8_countScripts_14 ?_
      refine dj_aald C dr_51 dz_2 dX8_countScripts_15 (fun hi2 => ?_)
      refine dj_callVi (t := 6) (As := []) C dw_X8_191 ⟨_, _, rfl⟩ (by decide) (dt_51 hi2) (ct_X6_isMissing l g (43 + 2 * x2.toNatClampNeg) S (dt_51 hi2)) ⟨Nat.le_of_ble_eq_true rfl, Nat.le_of_ble_eq_true rfl⟩ rfl (Nat.le_of_ble_eq_true rfl) rfl dX8_countScripts_16 (fun r3 => ?_)
      refine dj_dia 27 [.int x1] (fun y4 => ?_) (fun hd4 => ?_)
      · refine dj_iadd C dX8_countScripts_27 ?_
        refine dj_lti (fun y5 => ?_)
        refine dj_istore_n (lv2 := [(0, .ref (g.1 0)), (1, .int y5), (2, .int x2)]) C [1, 0, 2] dX8_countScripts_28 rfl (by decide) rfl ?_
        refine dj_iinc (lv2 := [(0, .ref (g.1 0)), (1, .int y5), (2, .int (x2 + 1))]) C 2 rfl [1, 2, 0] dX8_countScripts_29 dc_iconst_1 (by decide) rfl ?_
        refine dj_goto (tgt := 4) C dX8_countScripts_32 (by decide) ?_
        exact ih y5 (x2 + 1) r3.2
      · refine dj_ltite ?_
        refine dj_if_eq (tgt := 26) C dX8_countScripts_19 (by decide) (fun c6 => ?_) (fun c6 => ?_)
        · refine dj_iconst C dX8_countScripts_26 dc_iconst_1 ?_
          exact hd4 _
        · refine dj_iconst C dX8_countScripts_22 dc_iconst_0 ?_
          refine dj_goto (tgt := 27) C dX8_countScripts_23 (by decide) ?_
          exact hd4 _
set_option maxRecDepth 100000 in
set_option maxHeartbeats 4000000 in
theorem ct_X8_countScripts (l : Launch) (g : dk_G)  (S : dk_S)  : dk_M l g yX8_countScripts cX8_countScripts 3 (some .int) 1 20 [.ref (g.1 0)] S (fX8_countScripts  S) dk_qi := by
  refine dk_enter "DuckWalk" (by decide +kernel) rfl (Nat.le_of_ble_eq_true rfl) [(0, .ref (g.1 0))] rfl ?_
  intro p e s m args below meth c C
  unfold fX8_countScripts
  refine dj_iconst C dX8_countScripts_0 dc_iconst_0 ?_
  refine dj_istore_n (lv2 := [(0, .ref (g.1 0)), (1, .int 0)]) C [1, 0] dX8_countScripts_1 rfl (by decide) rfl ?_
  refine dj_iconst C dX8_countScripts_2 dc_iconst_0 ?_
  refine dj_istore_n (lv2 := [(0, .ref (g.1 0)), (1, .int 0), (2, .int 0)]) C [1, 2, 0] dX8_countScripts_3 rfl (by decide) rfl ?_
  refine jX8_countScripts_L4 C rfl dk_FU 0 0 S
noncomputable def fX8_countOf (x1 : Int32) (S : dk_S) : Option (Int32 × dk_S) := if x1 = 0 then (fX8_countDucks 0 S).bind (fun r2 => some (r2.1, r2.2)) else if x1 = 1 then (fX8_countPlanks S).bind (fun r4 => some (r4.1, r4.2)) else if x1 = 2 then (fX8_countDucks 1 S).bind (fun r6 => some (r6.1, r6.2)) else if x1 = 3 then if (S.1 5 2) = 0 then some (0, S) else some (S.1 5 6, S) else if x1 = 4 then (fX8_countKept S).bind (fun r10 => some (r10.1, r10.2)) else if x1 = 5 then (fX8_countRows S).bind (fun r12 => some (r12.1, r12.2)) else (fX8_countScripts S).bind (fun r13 => some (r13.1, r13.2))
set_option maxRecDepth 100000 in
set_option maxHeartbeats 4000000 in
theorem ct_X8_countOf (l : Launch) (g : dk_G) (x1 : Int32) (S : dk_S)  : dk_M l g yX8_countOf cX8_countOf 2 (some .int) 2 42 [.ref (g.1 0), .int x1] S (fX8_countOf x1 S) dk_qi := by
  refine dk_enter "DuckWalk" (by decide +kernel) rfl (Nat.le_of_ble_eq_true rfl) [(0, .ref (g.1 0)), (1, .int x1)] rfl ?_
  intro p e s m args below meth c C
  unfold fX8_countOf
  refine dj_iload_n C 1 rfl dX8_countOf_0 ?_
  refine dj_ite (fun h1 => ?_) (fun h1 => ?_)
  · refine dj_tsw_in (off := 39) (tgt := 40) C dX8_countOf_1 (by rw [h1]; decide) (by rw [h1]; decide) (by rw [h1]; rfl) (by decide) ?_
    refine dj_aload_n C 0 rfl dX8_countOf_40 ?_
    refine dj_iconst C dX8_countOf_41 dc_iconst_0 ?_
    refine dj_callVi (t := 8) (As := [.int 0]) C dw_X8_352 ⟨_, _, rfl⟩ (by decide) dz_0 (ct_X8_countDucks l g 0 S) ⟨Nat.le_of_ble_eq_true rfl, Nat.le_of_ble_eq_true rfl⟩ rfl (Nat.le_of_ble_eq_true rfl) rfl dX8_countOf_42 (fun r2 => ?_)
    exact dj_iret C dX8_countOf_45
  · refine dj_ite (fun h3 => ?_) (fun h3 => ?_)
    · refine dj_tsw_in (off := 45) (tgt := 46) C dX8_countOf_1 (by rw [h3]; decide) (by rw [h3]; decide) (by rw [h3]; rfl) (by decide) ?_
      refine dj_aload_n C 0 rfl dX8_countOf_46 ?_
      refine dj_callVi (t := 8) (As := []) C dw_X8_356 ⟨_, _, rfl⟩ (by decide) dz_0 (ct_X8_countPlanks l g S) ⟨Nat.le_of_ble_eq_true rfl, Nat.le_of_ble_eq_true rfl⟩ rfl (Nat.le_of_ble_eq_true rfl) rfl dX8_countOf_47 (fun r4 => ?_)
      exact dj_iret C dX8_countOf_50
    · refine dj_ite (fun h5 => ?_) (fun h5 => ?_)
      · refine dj_tsw_in (off := 50) (tgt := 51) C dX8_countOf_1 (by rw [h5]; decide) (by rw [h5]; decide) (by rw [h5]; rfl) (by decide) ?_
        refine dj_aload_n C 0 rfl dX8_countOf_51 ?_
        refine dj_iconst C dX8_countOf_52 dc_iconst_1 ?_
        refine dj_callVi (t := 8) (As := [.int 1]) C dw_X8_352 ⟨_, _, rfl⟩ (by decide) dz_0 (ct_X8_countDucks l g 1 S) ⟨Nat.le_of_ble_eq_true rfl, Nat.le_of_ble_eq_true rfl⟩ rfl (Nat.le_of_ble_eq_true rfl) rfl dX8_countOf_53 (fun r6 => ?_)
        exact dj_iret C dX8_countOf_56
      · refine dj_ite (fun h7 => ?_) (fun h7 => ?_)
        · refine dj_tsw_in (off := 56) (tgt := 57) C dX8_countOf_1 (by rw [h7]; decide) (by rw [h7]; decide) (by rw [h7]; rfl) (by decide) ?_
          refine dj_aload_n C 0 rfl dX8_countOf_57 ?_
          refine dj_getr (r := 5) (k2 := 5) C dl_X8_36 rfl dz_0 rfl dX8_countOf_58 ?_
          refine dj_geti C dl_X8_237 rfl dz_5 dX8_countOf_61 ?_
          refine dj_if_eq (tgt := 77) C dX8_countOf_64 (by decide) (fun c8 => ?_) (fun c8 => ?_)
          · refine dj_iconst C dX8_countOf_77 dc_iconst_0 ?_
            exact dj_iret C dX8_countOf_78
          · refine dj_aload_n C 0 rfl dX8_countOf_67 ?_
            refine dj_getr (r := 5) (k2 := 5) C dl_X8_36 rfl dz_0 rfl dX8_countOf_68 ?_
            refine dj_geti C dl_X8_241 rfl dz_5 dX8_countOf_71 ?_
            refine dj_goto (tgt := 78) C dX8_countOf_74 (by decide) ?_
            exact dj_iret C dX8_countOf_78
        · refine dj_ite (fun h9 => ?_) (fun h9 => ?_)
          · refine dj_tsw_in (off := 78) (tgt := 79) C dX8_countOf_1 (by rw [h9]; decide) (by rw [h9]; decide) (by rw [h9]; rfl) (by decide) ?_
            refine dj_aload_n C 0 rfl dX8_countOf_79 ?_
            refine dj_callVi (t := 8) (As := []) C dw_X8_359 ⟨_, _, rfl⟩ (by decide) dz_0 (ct_X8_countKept l g S) ⟨Nat.le_of_ble_eq_true rfl, Nat.le_of_ble_eq_true rfl⟩ rfl (Nat.le_of_ble_eq_true rfl) rfl dX8_countOf_80 (fun r10 => ?_)
            exact dj_iret C dX8_countOf_83
          · refine dj_ite (fun h11 => ?_) (fun h11 => ?_)
            · refine dj_tsw_in (off := 83) (tgt := 84) C dX8_countOf_1 (by rw [h11]; decide) (by rw [h11]; decide) (by rw [h11]; rfl) (by decide) ?_
              refine dj_aload_n C 0 rfl dX8_countOf_84 ?_
              refine dj_callVi (t := 8) (As := []) C dw_X8_362 ⟨_, _, rfl⟩ (by decide) dz_0 (ct_X8_countRows l g S) ⟨Nat.le_of_ble_eq_true rfl, Nat.le_of_ble_eq_true rfl⟩ rfl (Nat.le_of_ble_eq_true rfl) rfl dX8_countOf_85 (fun r12 => ?_)
              exact dj_iret C dX8_countOf_88
            · refine dj_tsw_d (tgt := 89) C dX8_countOf_1 ?_ (by decide) ?_
              · have e0 : x1.toInt ≠ 0 := fun e => h1 (dk_teq e (by decide))
                have e1 : x1.toInt ≠ 1 := fun e => h3 (dk_teq e (by decide))
                have e2 : x1.toInt ≠ 2 := fun e => h5 (dk_teq e (by decide))
                have e3 : x1.toInt ≠ 3 := fun e => h7 (dk_teq e (by decide))
                have e4 : x1.toInt ≠ 4 := fun e => h9 (dk_teq e (by decide))
                have e5 : x1.toInt ≠ 5 := fun e => h11 (dk_teq e (by decide))
                rcases (show x1.toInt < 0 ∨ 5 < x1.toInt by omega) with h | h
                · exact Or.inl h
                · exact Or.inr (Or.inl h)
              · refine dj_aload_n C 0 rfl dX8_countOf_89 ?_
                refine dj_callVi (t := 8) (As := []) C dw_X8_365 ⟨_, _, rfl⟩ (by decide) dz_0 (ct_X8_countScripts l g S) ⟨Nat.le_of_ble_eq_true rfl, Nat.le_of_ble_eq_true rfl⟩ rfl (Nat.le_of_ble_eq_true rfl) rfl dX8_countOf_90 (fun r13 => ?_)
                exact dj_iret C dX8_countOf_93
noncomputable def fX8_count (x1 : Int32) (S : dk_S) : Option (Int32 × dk_S) := (fX8_isOutside x1 0 6 S).bind (fun r1 => if r1.1 = 0 then (fX8_countOf x1 r1.2).bind (fun r3 => some (r3.1, r3.2)) else some ((-1), r1.2))
set_option maxRecDepth 100000 in
set_option maxHeartbeats 4000000 in
theorem ct_X8_count (l : Launch) (g : dk_G) (x1 : Int32) (S : dk_S)  : dk_M l g yX8_count cX8_count 2 (some .int) 3 63 [.ref (g.1 0), .int x1] S (fX8_count x1 S) dk_qi := by
  refine dk_enter "DuckWalk" (by decide +kernel) rfl (Nat.le_of_ble_eq_true rfl) [(0, .ref (g.1 0)), (1, .int x1)] rfl ?_
  intro p e s m args below meth c C
  unfold fX8_count
  refine dj_iload_n C 1 rfl dX8_count_0 ?_
  refine dj_iconst C dX8_count_1 dc_iconst_0 ?_
  refine dj_bipush C dX8_count_2 dc_bipush_6 ?_
  refine dj_callSi (As := [.int x1, .int 0, .int 6]) C dw_X8_90 (ct_X8_isOutside l g x1 0 6 S) ⟨Nat.le_of_ble_eq_true rfl, Nat.le_of_ble_eq_true rfl⟩ rfl (Nat.le_of_ble_eq_true rfl) rfl dX8_count_4 (fun r1 => ?_)
  refine dj_if_eq (tgt := 12) C dX8_count_7 (by decide) (fun c2 => ?_) (fun c2 => ?_)
  · refine dj_aload_n C 0 rfl dX8_count_12 ?_
    refine dj_iload_n C 1 rfl dX8_count_13 ?_
    refine dj_callVi (t := 8) (As := [.int x1]) C dw_X8_349 ⟨_, _, rfl⟩ (by decide) dz_0 (ct_X8_countOf l g x1 r1.2) ⟨Nat.le_of_ble_eq_true rfl, Nat.le_of_ble_eq_true rfl⟩ rfl (Nat.le_of_ble_eq_true rfl) rfl dX8_count_14 (fun r3 => ?_)
    exact dj_iret C dX8_count_17
  · refine dj_iconst C dX8_count_10 dc_iconst_m1 ?_
    exact dj_iret C dX8_count_11
noncomputable def fX8_finding  (S : dk_S) : Option (Int32 × dk_S) := some (S.1 0 11, S)
set_option maxRecDepth 100000 in
set_option maxHeartbeats 4000000 in
theorem ct_X8_finding (l : Launch) (g : dk_G)  (S : dk_S)  : dk_M l g yX8_finding cX8_finding 1 (some .int) 0 0 [.ref (g.1 0)] S (fX8_finding  S) dk_qi := by
  refine dk_enter "DuckWalk" (by decide +kernel) rfl (Nat.le_of_ble_eq_true rfl) [(0, .ref (g.1 0))] rfl ?_
  intro p e s m args below meth c C
  unfold fX8_finding
  refine dj_aload_n C 0 rfl dX8_finding_0 ?_
  refine dj_geti C dl_X8_72 rfl dz_0 dX8_finding_1 ?_
  exact dj_iret C dX8_finding_4
noncomputable def fX8_findings (x1 : Int32) (S : dk_S) : Option (Int32 × dk_S) := (fX8_isOutside x1 1 5 S).bind (fun r1 => if r1.1 = 0 then dk_gd (dk_in x1 6) (some (r1.2.1 30 x1.toNatClampNeg, r1.2)) else some ((-1), r1.2))
set_option maxRecDepth 100000 in
set_option maxHeartbeats 4000000 in
theorem ct_X8_findings (l : Launch) (g : dk_G) (x1 : Int32) (S : dk_S)  : dk_M l g yX8_findings cX8_findings 2 (some .int) 1 22 [.ref (g.1 0), .int x1] S (fX8_findings x1 S) dk_qi := by
  refine dk_enter "DuckWalk" (by decide +kernel) rfl (Nat.le_of_ble_eq_true rfl) [(0, .ref (g.1 0)), (1, .int x1)] rfl ?_
  intro p e s m args below meth c C
  unfold fX8_findings
  refine dj_iload_n C 1 rfl dX8_findings_0 ?_
  refine dj_iconst C dX8_findings_1 dc_iconst_1 ?_
  refine dj_iconst C dX8_findings_2 dc_iconst_5 ?_
  refine dj_callSi (As := [.int x1, .int 1, .int 5]) C dw_X8_90 (ct_X8_isOutside l g x1 1 5 S) ⟨Nat.le_of_ble_eq_true rfl, Nat.le_of_ble_eq_true rfl⟩ rfl (Nat.le_of_ble_eq_true rfl) rfl dX8_findings_3 (fun r1 => ?_)
  refine dj_if_eq (tgt := 11) C dX8_findings_6 (by decide) (fun c2 => ?_) (fun c2 => ?_)
  · refine dj_aload_n C 0 rfl dX8_findings_11 ?_
    refine dj_getr (r := 30) (k2 := 30) C dl_X8_68 rfl dz_0 rfl dX8_findings_12 ?_
    refine dj_iload_n C 1 rfl dX8_findings_15 ?_
    refine dj_iald (n := 6) C dz_30 (by decide) dX8_findings_16 ?_
    exact dj_iret C dX8_findings_17
  · refine dj_iconst C dX8_findings_9 dc_iconst_m1 ?_
    exact dj_iret C dX8_findings_10
noncomputable def fX8_digest_L115  : Nat → Int64 → Int32 → dk_S → Option (Int64 × dk_S)
  | 0, _, _, _ => none
  | n + 1, x1, x3, S => if 4 ≤ x3 then some (x1, S) else dk_gd (dk_in x3 4) ((fX6_digestOn (43 + 2 * x3.toNatClampNeg) x1 S).bind (fun r8 => fX8_digest_L115 n r8.1 (x3 + 1) r8.2))
noncomputable def fX8_digest_L90 (kx113 : (Int64 × dk_S) → Option (Int64 × dk_S)) : Nat → Int64 → Int32 → dk_S → Option (Int64 × dk_S)
  | 0, _, _, _ => none
  | n + 1, x1, x3, S => if 6 ≤ x3 then kx113 (x1, S) else dk_gd (dk_in x3 6) ((fX5_digestOn (31 + 2 * x3.toNatClampNeg) x1 S).bind (fun r11 => fX8_digest_L90 kx113 n r11.1 (x3 + 1) r11.2))
noncomputable def fX8_digest_L57 (kx79 : (Int64 × dk_S) → Option (Int64 × dk_S)) : Nat → Int64 → Int32 → dk_S → Option (Int64 × dk_S)
  | 0, _, _, _ => none
  | n + 1, x1, x3, S => if 4 ≤ x3 then kx79 (x1, S) else dk_gd (dk_in x3 4) ((fX3_digestOn (59 + 2 * x3.toNatClampNeg) x1 S).bind (fun r14 => fX8_digest_L57 kx79 n r14.1 (x3 + 1) r14.2))
noncomputable def fX8_digest_L33 (kx55 : (Int64 × dk_S) → Option (Int64 × dk_S)) : Nat → Int64 → Int32 → dk_S → Option (Int64 × dk_S)
  | 0, _, _, _ => none
  | n + 1, x1, x3, S => if 4 ≤ x3 then kx55 (x1, S) else dk_gd (dk_in x3 4) ((fX1_digestOn (51 + 2 * x3.toNatClampNeg) x1 S).bind (fun r17 => fX8_digest_L33 kx55 n r17.1 (x3 + 1) r17.2))
noncomputable def fX8_digest_L6 (kx31 : (Int64 × dk_S) → Option (Int64 × dk_S)) : Nat → Int64 → Int32 → dk_S → Option (Int64 × dk_S)
  | 0, _, _, _ => none
  | n + 1, x1, x3, S => if 6 < x3 then kx31 (x1, S) else (fX8_countOf x3 S).bind (fun r19 => dk_lt ((31 * x1) + r19.1.toInt64) (fun y20 : Int64 => fX8_digest_L6 kx31 n y20 (x3 + 1) r19.2))
noncomputable def fX8_digest  (S : dk_S) : Option (Int64 × dk_S) := fX8_digest_L6 (fun t1 : Int64 × dk_S => fX8_digest_L33 (fun t2 : Int64 × dk_S => fX8_digest_L57 (fun t3 : Int64 × dk_S => (fX0_digestOn 5 t3.1 t3.2).bind (fun r4 => fX8_digest_L90 (fun t5 : Int64 × dk_S => fX8_digest_L115 dk_FU t5.1 0 t5.2) dk_FU r4.1 0 r4.2)) dk_FU t2.1 0 t2.2) dk_FU t1.1 0 t1.2) dk_FU 17 0 S
set_option maxRecDepth 100000 in
set_option maxHeartbeats 4000000 in
theorem jX8_digest_L115 {p : Program} {l : Launch} {e : Env} {R : Room} {s : State} {m : MethodId} {args : Array Value} {below : List Frame} {meth : Method} {c : Code} {g : dk_G} (C : dk_C p l e R s m args below meth c g cX8_digest "DuckWalk" 4 (some .long)) (hR : R = { frames := 3, cells := 0, slots := 0, locals := 68 })    : ∀ (n : Nat) (x1 : Int64) (x3 : Int32) (S : dk_S), dk_J p l e R s m args below meth c g 4 dk_ql 115 [(0, .ref (g.1 0)), (1, .long x1), (3, .int x3)] [] S (fX8_digest_L115 n x1 x3 S) some := by
  subst hR
  intro n
  induction n with
  | zero =>
    intro x1 x3 S
    exact dj_none
  | succ n ih =>
    intro x1 x3 S
    rw [fX8_digest_L115]
    refine dj_iload_n C 2 rfl dX8_digest_115 ?_
    refine dj_iconst C dX8_digest_116 dc_iconst_4 ?_
    refine dj_icmp_ge (tgt := 137) C dX8_digest_117 (by decide) (fun c6 => ?_) (fun c6 => ?_)
    · refine dj_lload_n C 1 rfl dX8_digest_137 ?_
      exact dj_lret C dX8_digest_138
    · refine dj_aload_n C 0 rfl dX8_digest_120 ?_
      refine dj_getr (r := 2) (k2 := 2) C dl_X8_17 rfl dz_0 rfl dX8_digest_121 ?_
      refine dj_iload_n C 2 rfl dX8_digest_124 ?_
      refine dj_aald C dr_51 dz_2 dX8_digest_125 (fun hi7 => ?_)
      refine dj_lload_n C 1 rfl dX8_digest_126 ?_
      refine dj_callVl (t := 6) (As := [.long x1]) C dw_X8_379 ⟨_, _, rfl⟩ (by decide) (dt_51 hi7) (ct_X6_digestOn l g (43 + 2 * x3.toNatClampNeg) x1 S (dt_51 hi7)) ⟨Nat.le_of_ble_eq_true rfl, Nat.le_of_ble_eq_true rfl⟩ rfl (Nat.le_of_ble_eq_true rfl) rfl dX8_digest_127 (fun r8 => ?_)
      refine dj_lstore_n (lv2 := [(0, .ref (g.1 0)), (1, .long r8.1), (3, .int x3)]) C [1, 0, 2] dX8_digest_130 rfl (by decide) rfl ?_
      refine dj_iinc (lv2 := [(0, .ref (g.1 0)), (1, .long r8.1), (3, .int (x3 + 1))]) C 2 rfl [1, 2, 0] dX8_digest_131 dc_iconst_1 (by decide) rfl ?_
      refine dj_goto (tgt := 115) C dX8_digest_134 (by decide) ?_
      exact ih r8.1 (x3 + 1) r8.2
set_option maxRecDepth 100000 in
set_option maxHeartbeats 4000000 in
theorem jX8_digest_L90 {p : Program} {l : Launch} {e : Env} {R : Room} {s : State} {m : MethodId} {args : Array Value} {below : List Frame} {meth : Method} {c : Code} {g : dk_G} (C : dk_C p l e R s m args below meth c g cX8_digest "DuckWalk" 4 (some .long)) (hR : R = { frames := 3, cells := 0, slots := 0, locals := 68 }) (kx113 : (Int64 × dk_S) → Option (Int64 × dk_S))  (hkx113 : ∀ t : Int64 × dk_S, dk_J p l e R s m args below meth c g 4 dk_ql 113 [(0, .ref (g.1 0)), (1, .long t.1)] [] t.2 (kx113 t) some) : ∀ (n : Nat) (x1 : Int64) (x3 : Int32) (S : dk_S), dk_J p l e R s m args below meth c g 4 dk_ql 90 [(0, .ref (g.1 0)), (1, .long x1), (3, .int x3)] [] S (fX8_digest_L90 kx113 n x1 x3 S) some := by
  subst hR
  intro n
  induction n with
  | zero =>
    intro x1 x3 S
    exact dj_none
  | succ n ih =>
    intro x1 x3 S
    rw [fX8_digest_L90]
    refine dj_iload_n C 2 rfl dX8_digest_90 ?_
    refine dj_bipush C dX8_digest_91 dc_bipush_6 ?_
    refine dj_icmp_ge (tgt := 113) C dX8_digest_93 (by decide) (fun c9 => ?_) (fun c9 => ?_)
    · refine dj_sub (lv2 := [(0, .ref (g.1 0)), (1, .long x1)]) [0, 1] rfl ?_
      exact hkx113 (x1, S)
    · refine dj_aload_n C 0 rfl dX8_digest_96 ?_
      refine dj_getr (r := 1) (k2 := 1) C dl_X8_11 rfl dz_0 rfl dX8_digest_97 ?_
      refine dj_iload_n C 2 rfl dX8_digest_100 ?_
      refine dj_aald C dr_50 dz_1 dX8_digest_101 (fun hi10 => ?_)
      refine dj_lload_n C 1 rfl dX8_digest_102 ?_
      refine dj_callVl (t := 5) (As := [.long x1]) C dw_X8_378 ⟨_, _, rfl⟩ (by decide) (dt_50 hi10) (ct_X5_digestOn l g (31 + 2 * x3.toNatClampNeg) x1 S (dt_50 hi10)) ⟨Nat.le_of_ble_eq_true rfl, Nat.le_of_ble_eq_true rfl⟩ rfl (Nat.le_of_ble_eq_true rfl) rfl dX8_digest_103 (fun r11 => ?_)
      refine dj_lstore_n (lv2 := [(0, .ref (g.1 0)), (1, .long r11.1), (3, .int x3)]) C [1, 0, 2] dX8_digest_106 rfl (by decide) rfl ?_
      refine dj_iinc (lv2 := [(0, .ref (g.1 0)), (1, .long r11.1), (3, .int (x3 + 1))]) C 2 rfl [1, 2, 0] dX8_digest_107 dc_iconst_1 (by decide) rfl ?_
      refine dj_goto (tgt := 90) C dX8_digest_110 (by decide) ?_
      exact ih r11.1 (x3 + 1) r11.2
set_option maxRecDepth 100000 in
set_option maxHeartbeats 4000000 in
theorem jX8_digest_L57 {p : Program} {l : Launch} {e : Env} {R : Room} {s : State} {m : MethodId} {args : Array Value} {below : List Frame} {meth : Method} {c : Code} {g : dk_G} (C : dk_C p l e R s m args below meth c g cX8_digest "DuckWalk" 4 (some .long)) (hR : R = { frames := 3, cells := 0, slots := 0, locals := 68 }) (kx79 : (Int64 × dk_S) → Option (Int64 × dk_S))  (hkx79 : ∀ t : Int64 × dk_S, dk_J p l e R s m args below meth c g 4 dk_ql 79 [(0, .ref (g.1 0)), (1, .long t.1)] [] t.2 (kx79 t) some) : ∀ (n : Nat) (x1 : Int64) (x3 : Int32) (S : dk_S), dk_J p l e R s m args below meth c g 4 dk_ql 57 [(0, .ref (g.1 0)), (1, .long x1), (3, .int x3)] [] S (fX8_digest_L57 kx79 n x1 x3 S) some := by
  subst hR
  intro n
  induction n with
  | zero =>
    intro x1 x3 S
    exact dj_none
  | succ n ih =>
    intro x1 x3 S
    rw [fX8_digest_L57]
    refine dj_iload_n C 2 rfl dX8_digest_57 ?_
    refine dj_iconst C dX8_digest_58 dc_iconst_4 ?_
    refine dj_icmp_ge (tgt := 79) C dX8_digest_59 (by decide) (fun c12 => ?_) (fun c12 => ?_)
    · refine dj_sub (lv2 := [(0, .ref (g.1 0)), (1, .long x1)]) [0, 1] rfl ?_
      exact hkx79 (x1, S)
    · refine dj_aload_n C 0 rfl dX8_digest_62 ?_
      refine dj_getr (r := 4) (k2 := 4) C dl_X8_29 rfl dz_0 rfl dX8_digest_63 ?_
      refine dj_iload_n C 2 rfl dX8_digest_66 ?_
      refine dj_aald C dr_53 dz_4 dX8_digest_67 (fun hi13 => ?_)
      refine dj_lload_n C 1 rfl dX8_digest_68 ?_
      refine dj_callVl (t := 3) (As := [.long x1]) C dw_X8_376 ⟨_, _, rfl⟩ (by decide) (dt_53 hi13) (ct_X3_digestOn l g (59 + 2 * x3.toNatClampNeg) x1 S (dt_53 hi13)) ⟨Nat.le_of_ble_eq_true rfl, Nat.le_of_ble_eq_true rfl⟩ rfl (Nat.le_of_ble_eq_true rfl) rfl dX8_digest_69 (fun r14 => ?_)
      refine dj_lstore_n (lv2 := [(0, .ref (g.1 0)), (1, .long r14.1), (3, .int x3)]) C [1, 0, 2] dX8_digest_72 rfl (by decide) rfl ?_
      refine dj_iinc (lv2 := [(0, .ref (g.1 0)), (1, .long r14.1), (3, .int (x3 + 1))]) C 2 rfl [1, 2, 0] dX8_digest_73 dc_iconst_1 (by decide) rfl ?_
      refine dj_goto (tgt := 57) C dX8_digest_76 (by decide) ?_
      exact ih r14.1 (x3 + 1) r14.2
set_option maxRecDepth 100000 in
set_option maxHeartbeats 4000000 in
theorem jX8_digest_L33 {p : Program} {l : Launch} {e : Env} {R : Room} {s : State} {m : MethodId} {args : Array Value} {below : List Frame} {meth : Method} {c : Code} {g : dk_G} (C : dk_C p l e R s m args below meth c g cX8_digest "DuckWalk" 4 (some .long)) (hR : R = { frames := 3, cells := 0, slots := 0, locals := 68 }) (kx55 : (Int64 × dk_S) → Option (Int64 × dk_S))  (hkx55 : ∀ t : Int64 × dk_S, dk_J p l e R s m args below meth c g 4 dk_ql 55 [(0, .ref (g.1 0)), (1, .long t.1)] [] t.2 (kx55 t) some) : ∀ (n : Nat) (x1 : Int64) (x3 : Int32) (S : dk_S), dk_J p l e R s m args below meth c g 4 dk_ql 33 [(0, .ref (g.1 0)), (1, .long x1), (3, .int x3)] [] S (fX8_digest_L33 kx55 n x1 x3 S) some := by
  subst hR
  intro n
  induction n with
  | zero =>
    intro x1 x3 S
    exact dj_none
  | succ n ih =>
    intro x1 x3 S
    rw [fX8_digest_L33]
    refine dj_iload_n C 2 rfl dX8_digest_33 ?_
    refine dj_iconst C dX8_digest_34 dc_iconst_4 ?_
    refine dj_icmp_ge (tgt := 55) C dX8_digest_35 (by decide) (fun c15 => ?_) (fun c15 => ?_)
    · refine dj_sub (lv2 := [(0, .ref (g.1 0)), (1, .long x1)]) [0, 1] rfl ?_
      exact hkx55 (x1, S)
    · refine dj_aload_n C 0 rfl dX8_digest_38 ?_
      refine dj_getr (r := 3) (k2 := 3) C dl_X8_23 rfl dz_0 rfl dX8_digest_39 ?_
      refine dj_iload_n C 2 rfl dX8_digest_42 ?_
      refine dj_aald C dr_52 dz_3 dX8_digest_43 (fun hi16 => ?_)
      refine dj_lload_n C 1 rfl dX8_digest_44 ?_
      refine dj_callVl (t := 1) (As := [.long x1]) C dw_X8_372 ⟨_, _, rfl⟩ (by decide) (dt_52 hi16) (ct_X1_digestOn l g (51 + 2 * x3.toNatClampNeg) x1 S (dt_52 hi16)) ⟨Nat.le_of_ble_eq_true rfl, Nat.le_of_ble_eq_true rfl⟩ rfl (Nat.le_of_ble_eq_true rfl) rfl dX8_digest_45 (fun r17 => ?_)
      refine dj_lstore_n (lv2 := [(0, .ref (g.1 0)), (1, .long r17.1), (3, .int x3)]) C [1, 0, 2] dX8_digest_48 rfl (by decide) rfl ?_
      refine dj_iinc (lv2 := [(0, .ref (g.1 0)), (1, .long r17.1), (3, .int (x3 + 1))]) C 2 rfl [1, 2, 0] dX8_digest_49 dc_iconst_1 (by decide) rfl ?_
      refine dj_goto (tgt := 33) C dX8_digest_52 (by decide) ?_
      exact ih r17.1 (x3 + 1) r17.2
set_option maxRecDepth 100000 in
set_option maxHeartbeats 4000000 in
theorem jX8_digest_L6 {p : Program} {l : Launch} {e : Env} {R : Room} {s : State} {m : MethodId} {args : Array Value} {below : List Frame} {meth : Method} {c : Code} {g : dk_G} (C : dk_C p l e R s m args below meth c g cX8_digest "DuckWalk" 4 (some .long)) (hR : R = { frames := 3, cells := 0, slots := 0, locals := 68 }) (kx31 : (Int64 × dk_S) → Option (Int64 × dk_S))  (hkx31 : ∀ t : Int64 × dk_S, dk_J p l e R s m args below meth c g 4 dk_ql 31 [(0, .ref (g.1 0)), (1, .long t.1)] [] t.2 (kx31 t) some) : ∀ (n : Nat) (x1 : Int64) (x3 : Int32) (S : dk_S), dk_J p l e R s m args below meth c g 4 dk_ql 6 [(0, .ref (g.1 0)), (1, .long x1), (3, .int x3)] [] S (fX8_digest_L6 kx31 n x1 x3 S) some := by
  subst hR
  intro n
  induction n with
  | zero =>
    intro x1 x3 S
    exact dj_none
  | succ n ih =>
    intro x1 x3 S
    rw [fX8_digest_L6]
    refine dj_iload_n C 2 rfl dX8_digest_6 ?_
    refine dj_bipush C dX8_digest_7 dc_bipush_6 ?_
    refine dj_icmp_gt (tgt := 31) C dX8_digest_9 (by decide) (fun c18 => ?_) (fun c18 => ?_)
    · refine dj_sub (lv2 := [(0, .ref (g.1 0)), (1, .long x1)]) [0, 1] rfl ?_
      exact hkx31 (x1, S)
    · refine dj_ldc2 C (dk_m4 93 rfl rfl) dX8_digest_12 ?_
      refine dj_lload_n C 1 rfl dX8_digest_15 ?_
      refine dj_lmul C dX8_digest_16 ?_
      refine dj_aload_n C 0 rfl dX8_digest_17 ?_
      refine dj_iload_n C 2 rfl dX8_digest_18 ?_
      refine dj_callVi (t := 8) (As := [.int x3]) C dw_X8_349 ⟨_, _, rfl⟩ (by decide) dz_0 (ct_X8_countOf l g x3 S) ⟨Nat.le_of_ble_eq_true rfl, Nat.le_of_ble_eq_true rfl⟩ rfl (Nat.le_of_ble_eq_true rfl) rfl dX8_digest_19 (fun r19 => ?_)
      refine dj_i2l C dX8_digest_22 ?_
      refine dj_ladd C dX8_digest_23 ?_
      refine dj_ltl (fun y20 => ?_)
      refine dj_lstore_n (lv2 := [(0, .ref (g.1 0)), (1, .long y20), (3, .int x3)]) C [1, 0, 2] dX8_digest_24 rfl (by decide) rfl ?_
      refine dj_iinc (lv2 := [(0, .ref (g.1 0)), (1, .long y20), (3, .int (x3 + 1))]) C 2 rfl [1, 2, 0] dX8_digest_25 dc_iconst_1 (by decide) rfl ?_
      refine dj_goto (tgt := 6) C dX8_digest_28 (by decide) ?_
      exact ih y20 (x3 + 1) r19.2
set_option maxRecDepth 100000 in
set_option maxHeartbeats 4000000 in
theorem ct_X8_digest (l : Launch) (g : dk_G)  (S : dk_S)  : dk_M l g yX8_digest cX8_digest 4 (some .long) 3 68 [.ref (g.1 0)] S (fX8_digest  S) dk_ql := by
  refine dk_enter "DuckWalk" (by decide +kernel) rfl (Nat.le_of_ble_eq_true rfl) [(0, .ref (g.1 0))] rfl ?_
  intro p e s m args below meth c C
  unfold fX8_digest
  refine dj_ldc2 C (dk_m4 92 rfl rfl) dX8_digest_0 ?_
  refine dj_lstore_n (lv2 := [(0, .ref (g.1 0)), (1, .long 17)]) C [1, 0] dX8_digest_3 rfl (by decide) rfl ?_
  refine dj_iconst C dX8_digest_4 dc_iconst_0 ?_
  refine dj_istore_n (lv2 := [(0, .ref (g.1 0)), (1, .long 17), (3, .int 0)]) C [1, 2, 0] dX8_digest_5 rfl (by decide) rfl ?_
  refine jX8_digest_L6 C rfl _ (fun t1 => ?_) dk_FU 17 0 S
  · refine dj_iconst C dX8_digest_31 dc_iconst_0 ?_
    refine dj_istore_n (lv2 := [(0, .ref (g.1 0)), (1, .long t1.1), (3, .int 0)]) C [1, 2, 0] dX8_digest_32 rfl (by decide) rfl ?_
    refine jX8_digest_L33 C rfl _ (fun t2 => ?_) dk_FU t1.1 0 t1.2
    · refine dj_iconst C dX8_digest_55 dc_iconst_0 ?_
      refine dj_istore_n (lv2 := [(0, .ref (g.1 0)), (1, .long t2.1), (3, .int 0)]) C [1, 2, 0] dX8_digest_56 rfl (by decide) rfl ?_
      refine jX8_digest_L57 C rfl _ (fun t3 => ?_) dk_FU t2.1 0 t2.2
      · refine dj_aload_n C 0 rfl dX8_digest_79 ?_
        refine dj_getr (r := 5) (k2 := 5) C dl_X8_36 rfl dz_0 rfl dX8_digest_80 ?_
        refine dj_lload_n C 1 rfl dX8_digest_83 ?_
        refine dj_callVl (t := 0) (As := [.long t3.1]) C dw_X8_377 ⟨_, _, rfl⟩ (by decide) dz_5 (ct_X0_digestOn l g 5 t3.1 t3.2 dz_5) ⟨Nat.le_of_ble_eq_true rfl, Nat.le_of_ble_eq_true rfl⟩ rfl (Nat.le_of_ble_eq_true rfl) rfl dX8_digest_84 (fun r4 => ?_)
        refine dj_lstore_n (lv2 := [(0, .ref (g.1 0)), (1, .long r4.1)]) C [1, 0] dX8_digest_87 rfl (by decide) rfl ?_
        refine dj_iconst C dX8_digest_88 dc_iconst_0 ?_
        refine dj_istore_n (lv2 := [(0, .ref (g.1 0)), (1, .long r4.1), (3, .int 0)]) C [1, 2, 0] dX8_digest_89 rfl (by decide) rfl ?_
        refine jX8_digest_L90 C rfl _ (fun t5 => ?_) dk_FU r4.1 0 r4.2
        · refine dj_iconst C dX8_digest_113 dc_iconst_0 ?_
          refine dj_istore_n (lv2 := [(0, .ref (g.1 0)), (1, .long t5.1), (3, .int 0)]) C [1, 2, 0] dX8_digest_114 rfl (by decide) rfl ?_
          refine jX8_digest_L115 C rfl dk_FU t5.1 0 t5.2
noncomputable def fX9_in (x0 : Int32) (x1 : Int32) (x2 : Int32) (S : dk_S) : Option (Int32 × dk_S) := if x0 < x1 then some (0, S) else if x2 < x0 then some (0, S) else some (1, S)
set_option maxRecDepth 100000 in
set_option maxHeartbeats 4000000 in
theorem ct_X9_in (l : Launch) (g : dk_G) (x0 : Int32) (x1 : Int32) (x2 : Int32) (S : dk_S)  : dk_M l g yX9_in cX9_in 3 (some .boolean) 0 0 [.int x0, .int x1, .int x2] S (fX9_in x0 x1 x2 S) dk_qi := by
  refine dk_enter "DuckWalkModel" (by decide +kernel) rfl (Nat.le_of_ble_eq_true rfl) [(0, .int x0), (1, .int x1), (2, .int x2)] rfl ?_
  intro p e s m args below meth c C
  unfold fX9_in
  refine dj_iload_n C 0 rfl dX9_in_0 ?_
  refine dj_iload_n C 1 rfl dX9_in_1 ?_
  refine dj_icmp_lt (tgt := 14) C dX9_in_2 (by decide) (fun c1 => ?_) (fun c1 => ?_)
  · refine dj_iconst C dX9_in_14 dc_iconst_0 ?_
    exact dj_zret C rfl dX9_in_15
  · refine dj_iload_n C 0 rfl dX9_in_5 ?_
    refine dj_iload_n C 2 rfl dX9_in_6 ?_
    refine dj_icmp_gt (tgt := 14) C dX9_in_7 (by decide) (fun c2 => ?_) (fun c2 => ?_)
    · refine dj_iconst C dX9_in_14 dc_iconst_0 ?_
      exact dj_zret C rfl dX9_in_15
    · refine dj_iconst C dX9_in_10 dc_iconst_1 ?_
      refine dj_goto (tgt := 15) C dX9_in_11 (by decide) ?_
      exact dj_zret C rfl dX9_in_15
noncomputable def fX9_lesser (x0 : Int32) (x1 : Int32) (S : dk_S) : Option (Int32 × dk_S) := if x1 ≤ x0 then some (x1, S) else some (x0, S)
set_option maxRecDepth 100000 in
set_option maxHeartbeats 4000000 in
theorem ct_X9_lesser (l : Launch) (g : dk_G) (x0 : Int32) (x1 : Int32) (S : dk_S)  : dk_M l g yX9_lesser cX9_lesser 2 (some .int) 0 0 [.int x0, .int x1] S (fX9_lesser x0 x1 S) dk_qi := by
  refine dk_enter "DuckWalkModel" (by decide +kernel) rfl (Nat.le_of_ble_eq_true rfl) [(0, .int x0), (1, .int x1)] rfl ?_
  intro p e s m args below meth c C
  unfold fX9_lesser
  refine dj_iload_n C 0 rfl dX9_lesser_0 ?_
  refine dj_iload_n C 1 rfl dX9_lesser_1 ?_
  refine dj_icmp_ge (tgt := 9) C dX9_lesser_2 (by decide) (fun c1 => ?_) (fun c1 => ?_)
  · refine dj_iload_n C 1 rfl dX9_lesser_9 ?_
    exact dj_iret C dX9_lesser_10
  · refine dj_iload_n C 0 rfl dX9_lesser_5 ?_
    refine dj_goto (tgt := 10) C dX9_lesser_6 (by decide) ?_
    exact dj_iret C dX9_lesser_10
noncomputable def fX9_greater (x0 : Int32) (x1 : Int32) (S : dk_S) : Option (Int32 × dk_S) := if x0 ≤ x1 then some (x1, S) else some (x0, S)
set_option maxRecDepth 100000 in
set_option maxHeartbeats 4000000 in
theorem ct_X9_greater (l : Launch) (g : dk_G) (x0 : Int32) (x1 : Int32) (S : dk_S)  : dk_M l g yX9_greater cX9_greater 2 (some .int) 0 0 [.int x0, .int x1] S (fX9_greater x0 x1 S) dk_qi := by
  refine dk_enter "DuckWalkModel" (by decide +kernel) rfl (Nat.le_of_ble_eq_true rfl) [(0, .int x0), (1, .int x1)] rfl ?_
  intro p e s m args below meth c C
  unfold fX9_greater
  refine dj_iload_n C 0 rfl dX9_greater_0 ?_
  refine dj_iload_n C 1 rfl dX9_greater_1 ?_
  refine dj_icmp_le (tgt := 9) C dX9_greater_2 (by decide) (fun c1 => ?_) (fun c1 => ?_)
  · refine dj_iload_n C 1 rfl dX9_greater_9 ?_
    exact dj_iret C dX9_greater_10
  · refine dj_iload_n C 0 rfl dX9_greater_5 ?_
    refine dj_goto (tgt := 10) C dX9_greater_6 (by decide) ?_
    exact dj_iret C dX9_greater_10
noncomputable def fX9_notes (x1 : Int32) (S : dk_S) : Option (Int32 × dk_S) := dk_lt (dk_si S 82 0 x1) (fun S1 => dk_gd (dk_in x1 6) (dk_gd (dk_in x1 6) (dk_lt (dk_si S1 83 x1.toNatClampNeg ((S1.1 83 x1.toNatClampNeg) + 1)) (fun S2 => some ((-3), S2)))))
set_option maxRecDepth 100000 in
set_option maxHeartbeats 4000000 in
theorem ct_X9_notes (l : Launch) (g : dk_G) (x1 : Int32) (S : dk_S)  : dk_M l g yX9_notes cX9_notes 2 (some .int) 0 0 [.ref (g.1 82), .int x1] S (fX9_notes x1 S) dk_qi := by
  refine dk_enter "DuckWalkModel" (by decide +kernel) rfl (Nat.le_of_ble_eq_true rfl) [(0, .ref (g.1 82)), (1, .int x1)] rfl ?_
  intro p e s m args below meth c C
  unfold fX9_notes
  refine dj_aload_n C 0 rfl dX9_notes_0 ?_
  refine dj_iload_n C 1 rfl dX9_notes_1 ?_
  refine dj_puti C dl_X9_76 dp_9_0 rfl dz_82 dX9_notes_2 (fun S1 => ?_)
  refine dj_aload_n C 0 rfl dX9_notes_5 ?_
  refine dj_getr (r := 1) (k2 := 83) C dl_X9_7 rfl dz_82 rfl dX9_notes_6 ?_
  refine dj_iload_n C 1 rfl dX9_notes_9 ?_
  refine dj_dup2 C dX9_notes_10 rfl rfl ?_
  refine dj_iald (n := 6) C dz_83 (by decide) dX9_notes_11 ?_
  refine dj_iconst C dX9_notes_12 dc_iconst_1 ?_
  refine dj_iadd C dX9_notes_13 ?_
  refine dj_iast (n := 6) C dz_83 (by decide) dX9_notes_14 (fun S2 => ?_)
  refine dj_bipush C dX9_notes_15 dc_bipush_m3 ?_
  exact dj_iret C dX9_notes_17
noncomputable def fX9_finding  (S : dk_S) : Option (Int32 × dk_S) := some (S.1 82 0, S)
set_option maxRecDepth 100000 in
set_option maxHeartbeats 4000000 in
theorem ct_X9_finding (l : Launch) (g : dk_G)  (S : dk_S)  : dk_M l g yX9_finding cX9_finding 1 (some .int) 0 0 [.ref (g.1 82)] S (fX9_finding  S) dk_qi := by
  refine dk_enter "DuckWalkModel" (by decide +kernel) rfl (Nat.le_of_ble_eq_true rfl) [(0, .ref (g.1 82))] rfl ?_
  intro p e s m args below meth c C
  unfold fX9_finding
  refine dj_aload_n C 0 rfl dX9_finding_0 ?_
  refine dj_geti C dl_X9_76 rfl dz_82 dX9_finding_1 ?_
  exact dj_iret C dX9_finding_4
noncomputable def fX9_findings (x1 : Int32) (S : dk_S) : Option (Int32 × dk_S) := (fX9_in x1 1 5 S).bind (fun r1 => if r1.1 = 0 then some ((-1), r1.2) else dk_gd (dk_in x1 6) (some (r1.2.1 83 x1.toNatClampNeg, r1.2)))
set_option maxRecDepth 100000 in
set_option maxHeartbeats 4000000 in
theorem ct_X9_findings (l : Launch) (g : dk_G) (x1 : Int32) (S : dk_S)  : dk_M l g yX9_findings cX9_findings 2 (some .int) 1 22 [.ref (g.1 82), .int x1] S (fX9_findings x1 S) dk_qi := by
  refine dk_enter "DuckWalkModel" (by decide +kernel) rfl (Nat.le_of_ble_eq_true rfl) [(0, .ref (g.1 82)), (1, .int x1)] rfl ?_
  intro p e s m args below meth c C
  unfold fX9_findings
  refine dj_iload_n C 1 rfl dX9_findings_0 ?_
  refine dj_iconst C dX9_findings_1 dc_iconst_1 ?_
  refine dj_iconst C dX9_findings_2 dc_iconst_5 ?_
  refine dj_callSi (As := [.int x1, .int 1, .int 5]) C dw_X9_80 (ct_X9_in l g x1 1 5 S) ⟨Nat.le_of_ble_eq_true rfl, Nat.le_of_ble_eq_true rfl⟩ rfl (Nat.le_of_ble_eq_true rfl) rfl dX9_findings_3 (fun r1 => ?_)
  refine dj_if_eq (tgt := 18) C dX9_findings_6 (by decide) (fun c2 => ?_) (fun c2 => ?_)
  · refine dj_iconst C dX9_findings_18 dc_iconst_m1 ?_
    exact dj_iret C dX9_findings_19
  · refine dj_aload_n C 0 rfl dX9_findings_9 ?_
    refine dj_getr (r := 1) (k2 := 83) C dl_X9_7 rfl dz_82 rfl dX9_findings_10 ?_
    refine dj_iload_n C 1 rfl dX9_findings_13 ?_
    refine dj_iald (n := 6) C dz_83 (by decide) dX9_findings_14 ?_
    refine dj_goto (tgt := 19) C dX9_findings_15 (by decide) ?_
    exact dj_iret C dX9_findings_19
noncomputable def fX9_tells (x1 : Int32) (x2 : Int32) (S : dk_S) : Option (Int32 × dk_S) := dk_lt (dk_si S 82 2 x1) (fun S1 => some (x2, S1))
set_option maxRecDepth 100000 in
set_option maxHeartbeats 4000000 in
theorem ct_X9_tells (l : Launch) (g : dk_G) (x1 : Int32) (x2 : Int32) (S : dk_S)  : dk_M l g yX9_tells cX9_tells 3 (some .int) 0 0 [.ref (g.1 82), .int x1, .int x2] S (fX9_tells x1 x2 S) dk_qi := by
  refine dk_enter "DuckWalkModel" (by decide +kernel) rfl (Nat.le_of_ble_eq_true rfl) [(0, .ref (g.1 82)), (1, .int x1), (2, .int x2)] rfl ?_
  intro p e s m args below meth c C
  unfold fX9_tells
  refine dj_aload_n C 0 rfl dX9_tells_0 ?_
  refine dj_iload_n C 1 rfl dX9_tells_1 ?_
  refine dj_puti C dl_X9_84 dp_9_2 rfl dz_82 dX9_tells_2 (fun S1 => ?_)
  refine dj_iload_n C 2 rfl dX9_tells_5 ?_
  exact dj_iret C dX9_tells_6
noncomputable def fX9_asked  (S : dk_S) : Option (Int32 × dk_S) := some (S.1 82 2, S)
set_option maxRecDepth 100000 in
set_option maxHeartbeats 4000000 in
theorem ct_X9_asked (l : Launch) (g : dk_G)  (S : dk_S)  : dk_M l g yX9_asked cX9_asked 1 (some .int) 0 0 [.ref (g.1 82)] S (fX9_asked  S) dk_qi := by
  refine dk_enter "DuckWalkModel" (by decide +kernel) rfl (Nat.le_of_ble_eq_true rfl) [(0, .ref (g.1 82))] rfl ?_
  intro p e s m args below meth c C
  unfold fX9_asked
  refine dj_aload_n C 0 rfl dX9_asked_0 ?_
  refine dj_geti C dl_X9_84 rfl dz_82 dX9_asked_1 ?_
  exact dj_iret C dX9_asked_4
noncomputable def fX9_fraction_L6 (x1 : Int64) (x3 : Int64) (x5 : Int32) (kx31 : (Int64 × dk_S) → Option (Int32 × dk_S)) : Nat → Int64 → Int64 → dk_S → Option (Int32 × dk_S)
  | 0, _, _, _ => none
  | n + 1, x6, x8, S => if (lg_cmp x8 0) = 0 then kx31 (x6, S) else dk_gd (decide (¬ x8 = 0)) (dk_lt (x6 - x6 / x8 * x8) (fun y5 : Int64 => fX9_fraction_L6 x1 x3 x5 kx31 n x8 y5 S))
noncomputable def fX9_fraction (x1 : Int64) (x3 : Int64) (x5 : Int32) (S : dk_S) : Option (Int32 × dk_S) := fX9_fraction_L6 x1 x3 x5 (fun t1 : Int64 × dk_S => dk_gd (decide (¬ t1.1 = 0)) (dk_lt (dk_sl t1.2 82 3 (x1 / t1.1)) (fun S2 => dk_gd (decide (¬ t1.1 = 0)) (dk_lt (dk_sl S2 82 4 (x3 / t1.1)) (fun S3 => some (x5, S3)))))) dk_FU x1 x3 S
set_option maxRecDepth 100000 in
set_option maxHeartbeats 4000000 in
theorem jX9_fraction_L6 {p : Program} {l : Launch} {e : Env} {R : Room} {s : State} {m : MethodId} {args : Array Value} {below : List Frame} {meth : Method} {c : Code} {g : dk_G} (C : dk_C p l e R s m args below meth c g cX9_fraction "DuckWalkModel" 12 (some .int)) (hR : R = { frames := 0, cells := 0, slots := 0, locals := 0 }) (x1 : Int64) (x3 : Int64) (x5 : Int32) (kx31 : (Int64 × dk_S) → Option (Int32 × dk_S))  (hkx31 : ∀ t : Int64 × dk_S, dk_J p l e R s m args below meth c g 12 dk_qi 31 [(0, .ref (g.1 82)), (1, .long x1), (3, .long x3), (5, .int x5), (6, .long t.1)] [] t.2 (kx31 t) some) : ∀ (n : Nat) (x6 : Int64) (x8 : Int64) (S : dk_S), dk_J p l e R s m args below meth c g 12 dk_qi 6 [(0, .ref (g.1 82)), (1, .long x1), (3, .long x3), (5, .int x5), (6, .long x6), (8, .long x8)] [] S (fX9_fraction_L6 x1 x3 x5 kx31 n x6 x8 S) some := by
  subst hR
  intro n
  induction n with
  | zero =>
    intro x6 x8 S
    exact dj_none
  | succ n ih =>
    intro x6 x8 S
    rw [fX9_fraction_L6]
    refine dj_lload C 5 rfl dX9_fraction_6 ?_
    refine dj_lconst (v := 0) C dX9_fraction_8 rfl ?_
    refine dj_lcmp C dX9_fraction_9 ?_
    refine dj_if_eq (tgt := 31) C dX9_fraction_10 (by decide) (fun c4 => ?_) (fun c4 => ?_)
    · refine dj_sub (lv2 := [(0, .ref (g.1 82)), (1, .long x1), (3, .long x3), (5, .int x5), (6, .long x6)]) [0, 1, 2, 3, 4] rfl ?_
      exact hkx31 (x6, S)
    · refine dj_lload C 4 rfl dX9_fraction_13 ?_
      refine dj_lload C 5 rfl dX9_fraction_15 ?_
      refine dj_lremg C dX9_fraction_17 ?_
      refine dj_ltl (fun y5 => ?_)
      refine dj_lstore (lv2 := [(0, .ref (g.1 82)), (1, .long x1), (3, .long x3), (5, .int x5), (8, .long x8), (10, .long y5)]) C [1, 2, 3, 4, 6, 0] dX9_fraction_18 (by decide) rfl ?_
      refine dj_lload C 4 rfl dX9_fraction_20 ?_
      refine dj_lstore (lv2 := [(0, .ref (g.1 82)), (1, .long x1), (3, .long x3), (5, .int x5), (6, .long x8), (10, .long y5)]) C [1, 2, 3, 4, 0, 6] dX9_fraction_22 (by decide) rfl ?_
      refine dj_lload C 5 rfl dX9_fraction_24 ?_
      refine dj_lstore (lv2 := [(0, .ref (g.1 82)), (1, .long x1), (3, .long x3), (5, .int x5), (6, .long x8), (8, .long y5)]) C [1, 2, 3, 4, 5, 0] dX9_fraction_26 (by decide) rfl ?_
      refine dj_goto (tgt := 6) C dX9_fraction_28 (by decide) ?_
      exact ih x8 y5 S
set_option maxRecDepth 100000 in
set_option maxHeartbeats 4000000 in
theorem ct_X9_fraction (l : Launch) (g : dk_G) (x1 : Int64) (x3 : Int64) (x5 : Int32) (S : dk_S)  : dk_M l g yX9_fraction cX9_fraction 12 (some .int) 0 0 [.ref (g.1 82), .long x1, .long x3, .int x5] S (fX9_fraction x1 x3 x5 S) dk_qi := by
  refine dk_enter "DuckWalkModel" (by decide +kernel) rfl (Nat.le_of_ble_eq_true rfl) [(0, .ref (g.1 82)), (1, .long x1), (3, .long x3), (5, .int x5)] rfl ?_
  intro p e s m args below meth c C
  unfold fX9_fraction
  refine dj_lload_n C 1 rfl dX9_fraction_0 ?_
  refine dj_lstore (lv2 := [(0, .ref (g.1 82)), (1, .long x1), (3, .long x3), (5, .int x5), (6, .long x1)]) C [1, 2, 3, 4, 0] dX9_fraction_1 (by decide) rfl ?_
  refine dj_lload_n C 2 rfl dX9_fraction_3 ?_
  refine dj_lstore (lv2 := [(0, .ref (g.1 82)), (1, .long x1), (3, .long x3), (5, .int x5), (6, .long x1), (8, .long x3)]) C [1, 2, 3, 4, 5, 0] dX9_fraction_4 (by decide) rfl ?_
  refine jX9_fraction_L6 C rfl x1 x3 x5 _ (fun t1 => ?_) dk_FU x1 x3 S
  · refine dj_aload_n C 0 rfl dX9_fraction_31 ?_
    refine dj_lload_n C 1 rfl dX9_fraction_32 ?_
    refine dj_lload C 4 rfl dX9_fraction_33 ?_
    refine dj_ldivg C dX9_fraction_35 ?_
    refine dj_putl C dl_X9_87 dp_9_3 rfl dz_82 dX9_fraction_36 (fun S2 => ?_)
    refine dj_aload_n C 0 rfl dX9_fraction_39 ?_
    refine dj_lload_n C 2 rfl dX9_fraction_40 ?_
    refine dj_lload C 4 rfl dX9_fraction_41 ?_
    refine dj_ldivg C dX9_fraction_43 ?_
    refine dj_putl C dl_X9_72 dp_9_4 rfl dz_82 dX9_fraction_44 (fun S3 => ?_)
    refine dj_iload C 3 rfl dX9_fraction_47 ?_
    exact dj_iret C dX9_fraction_49
noncomputable def fX9_upper  (S : dk_S) : Option (Int64 × dk_S) := some (S.2 82 3, S)
set_option maxRecDepth 100000 in
set_option maxHeartbeats 4000000 in
theorem ct_X9_upper (l : Launch) (g : dk_G)  (S : dk_S)  : dk_M l g yX9_upper cX9_upper 1 (some .long) 0 0 [.ref (g.1 82)] S (fX9_upper  S) dk_ql := by
  refine dk_enter "DuckWalkModel" (by decide +kernel) rfl (Nat.le_of_ble_eq_true rfl) [(0, .ref (g.1 82))] rfl ?_
  intro p e s m args below meth c C
  unfold fX9_upper
  refine dj_aload_n C 0 rfl dX9_upper_0 ?_
  refine dj_getl C dl_X9_87 rfl dz_82 dX9_upper_1 ?_
  exact dj_lret C dX9_upper_4
noncomputable def fX9_lower  (S : dk_S) : Option (Int64 × dk_S) := some (S.2 82 4, S)
set_option maxRecDepth 100000 in
set_option maxHeartbeats 4000000 in
theorem ct_X9_lower (l : Launch) (g : dk_G)  (S : dk_S)  : dk_M l g yX9_lower cX9_lower 1 (some .long) 0 0 [.ref (g.1 82)] S (fX9_lower  S) dk_ql := by
  refine dk_enter "DuckWalkModel" (by decide +kernel) rfl (Nat.le_of_ble_eq_true rfl) [(0, .ref (g.1 82))] rfl ?_
  intro p e s m args below meth c C
  unfold fX9_lower
  refine dj_aload_n C 0 rfl dX9_lower_0 ?_
  refine dj_getl C dl_X9_72 rfl dz_82 dX9_lower_1 ?_
  exact dj_lret C dX9_lower_4
noncomputable def fX9_isRow (x0 : Int32) (S : dk_S) : Option (Int32 × dk_S) := (fX9_in x0 0 5 S).bind (fun r1 => dk_gd (decide (r1.1 = 0 ∨ r1.1 = 1)) (some (r1.1, r1.2)))
set_option maxRecDepth 100000 in
set_option maxHeartbeats 4000000 in
theorem ct_X9_isRow (l : Launch) (g : dk_G) (x0 : Int32) (S : dk_S)  : dk_M l g yX9_isRow cX9_isRow 1 (some .boolean) 1 22 [.int x0] S (fX9_isRow x0 S) dk_qi := by
  refine dk_enter "DuckWalkModel" (by decide +kernel) rfl (Nat.le_of_ble_eq_true rfl) [(0, .int x0)] rfl ?_
  intro p e s m args below meth c C
  unfold fX9_isRow
  refine dj_iload_n C 0 rfl dX9_isRow_0 ?_
  refine dj_iconst C dX9_isRow_1 dc_iconst_0 ?_
  refine dj_iconst C dX9_isRow_2 dc_iconst_5 ?_
  refine dj_callSi (As := [.int x0, .int 0, .int 5]) C dw_X9_80 (ct_X9_in l g x0 0 5 S) ⟨Nat.le_of_ble_eq_true rfl, Nat.le_of_ble_eq_true rfl⟩ rfl (Nat.le_of_ble_eq_true rfl) rfl dX9_isRow_3 (fun r1 => ?_)
  exact dj_zretg C dX9_isRow_6
noncomputable def fX9_rowAt (x1 : Int32) (x2 : Int32) (S : dk_S) : Option (Int32 × dk_S) := dk_gd (dk_in ((60 * x1) + x2) 360) (some (S.1 85 ((60 * x1) + x2).toNatClampNeg, S))
set_option maxRecDepth 100000 in
set_option maxHeartbeats 4000000 in
theorem ct_X9_rowAt (l : Launch) (g : dk_G) (x1 : Int32) (x2 : Int32) (S : dk_S)  : dk_M l g yX9_rowAt cX9_rowAt 3 (some .int) 0 0 [.ref (g.1 82), .int x1, .int x2] S (fX9_rowAt x1 x2 S) dk_qi := by
  refine dk_enter "DuckWalkModel" (by decide +kernel) rfl (Nat.le_of_ble_eq_true rfl) [(0, .ref (g.1 82)), (1, .int x1), (2, .int x2)] rfl ?_
  intro p e s m args below meth c C
  unfold fX9_rowAt
  refine dj_aload_n C 0 rfl dX9_rowAt_0 ?_
  refine dj_getr (r := 3) (k2 := 85) C dl_X9_16 rfl dz_82 rfl dX9_rowAt_1 ?_
  refine dj_bipush C dX9_rowAt_4 dc_bipush_60 ?_
  refine dj_iload_n C 1 rfl dX9_rowAt_6 ?_
  refine dj_imul C dX9_rowAt_7 ?_
  refine dj_iload_n C 2 rfl dX9_rowAt_8 ?_
  refine dj_iadd C dX9_rowAt_9 ?_
  refine dj_iald (n := 360) C dz_85 (by decide) dX9_rowAt_10 ?_
  exact dj_iret C dX9_rowAt_11
noncomputable def fX9_row_L34 (x1 : Int32) (x2 : Int32) : Nat → Int32 → dk_S → Option (Int32 × dk_S)
  | 0, _, _ => none
  | n + 1, x3, S => if 60 ≤ x3 then some (x2, S) else dk_gd (dk_in ((60 * x1) + x3) 360) (dk_lt (dk_si S 85 ((60 * x1) + x3).toNatClampNeg 0) (fun S7 => fX9_row_L34 x1 x2 n (x3 + 1) S7))
noncomputable def fX9_row (x1 : Int32) (x2 : Int32) (S : dk_S) : Option (Int32 × dk_S) := (fX9_isRow x1 S).bind (fun r1 => if r1.1 = 0 then some ((-1), r1.2) else if x2 ≤ 60 then if 0 ≤ x2 then dk_gd (dk_in x1 6) (dk_lt (dk_si r1.2 84 x1.toNatClampNeg x2) (fun S5 => fX9_row_L34 x1 x2 dk_FU 0 S5)) else (fX9_notes 5 r1.2).bind (fun r8 => some (r8.1, r8.2)) else some ((-1), r1.2))
set_option maxRecDepth 100000 in
set_option maxHeartbeats 4000000 in
theorem jX9_row_L34 {p : Program} {l : Launch} {e : Env} {R : Room} {s : State} {m : MethodId} {args : Array Value} {below : List Frame} {meth : Method} {c : Code} {g : dk_G} (C : dk_C p l e R s m args below meth c g cX9_row "DuckWalkModel" 4 (some .int)) (hR : R = { frames := 2, cells := 0, slots := 0, locals := 42 }) (x1 : Int32) (x2 : Int32)   : ∀ (n : Nat) (x3 : Int32) (S : dk_S), dk_J p l e R s m args below meth c g 4 dk_qi 34 [(0, .ref (g.1 82)), (1, .int x1), (2, .int x2), (3, .int x3)] [] S (fX9_row_L34 x1 x2 n x3 S) some := by
  subst hR
  intro n
  induction n with
  | zero =>
    intro x3 S
    exact dj_none
  | succ n ih =>
    intro x3 S
    rw [fX9_row_L34]
    refine dj_iload_n C 3 rfl dX9_row_34 ?_
    refine dj_bipush C dX9_row_35 dc_bipush_60 ?_
    refine dj_icmp_ge (tgt := 58) C dX9_row_37 (by decide) (fun c6 => ?_) (fun c6 => ?_)
    · refine dj_iload_n C 2 rfl dX9_row_58 ?_
      exact dj_iret C dX9_row_59
    · refine dj_aload_n C 0 rfl dX9_row_40 ?_
      refine dj_getr (r := 3) (k2 := 85) C dl_X9_16 rfl dz_82 rfl dX9_row_41 ?_
      refine dj_bipush C dX9_row_44 dc_bipush_60 ?_
      refine dj_iload_n C 1 rfl dX9_row_46 ?_
      refine dj_imul C dX9_row_47 ?_
      refine dj_iload_n C 3 rfl dX9_row_48 ?_
      refine dj_iadd C dX9_row_49 ?_
      refine dj_iconst C dX9_row_50 dc_iconst_0 ?_
      refine dj_iast (n := 360) C dz_85 (by decide) dX9_row_51 (fun S7 => ?_)
      refine dj_iinc (lv2 := [(0, .ref (g.1 82)), (1, .int x1), (2, .int x2), (3, .int (x3 + 1))]) C 3 rfl [1, 2, 3, 0] dX9_row_52 dc_iconst_1 (by decide) rfl ?_
      refine dj_goto (tgt := 34) C dX9_row_55 (by decide) ?_
      exact ih (x3 + 1) S7
set_option maxRecDepth 100000 in
set_option maxHeartbeats 4000000 in
theorem ct_X9_row (l : Launch) (g : dk_G) (x1 : Int32) (x2 : Int32) (S : dk_S)  : dk_M l g yX9_row cX9_row 4 (some .int) 2 42 [.ref (g.1 82), .int x1, .int x2] S (fX9_row x1 x2 S) dk_qi := by
  refine dk_enter "DuckWalkModel" (by decide +kernel) rfl (Nat.le_of_ble_eq_true rfl) [(0, .ref (g.1 82)), (1, .int x1), (2, .int x2)] rfl ?_
  intro p e s m args below meth c C
  unfold fX9_row
  refine dj_iload_n C 1 rfl dX9_row_0 ?_
  refine dj_callSi (As := [.int x1]) C dw_X9_90 (ct_X9_isRow l g x1 S) ⟨Nat.le_of_ble_eq_true rfl, Nat.le_of_ble_eq_true rfl⟩ rfl (Nat.le_of_ble_eq_true rfl) rfl dX9_row_1 (fun r1 => ?_)
  refine dj_if_eq (tgt := 13) C dX9_row_4 (by decide) (fun c2 => ?_) (fun c2 => ?_)
  · refine dj_iconst C dX9_row_13 dc_iconst_m1 ?_
    exact dj_iret C dX9_row_14
  · refine dj_iload_n C 2 rfl dX9_row_7 ?_
    refine dj_bipush C dX9_row_8 dc_bipush_60 ?_
    refine dj_icmp_le (tgt := 15) C dX9_row_10 (by decide) (fun c3 => ?_) (fun c3 => ?_)
    · refine dj_iload_n C 2 rfl dX9_row_15 ?_
      refine dj_if_ge (tgt := 25) C dX9_row_16 (by decide) (fun c4 => ?_) (fun c4 => ?_)
      · refine dj_aload_n C 0 rfl dX9_row_25 ?_
        refine dj_getr (r := 2) (k2 := 84) C dl_X9_13 rfl dz_82 rfl dX9_row_26 ?_
        refine dj_iload_n C 1 rfl dX9_row_29 ?_
        refine dj_iload_n C 2 rfl dX9_row_30 ?_
        refine dj_iast (n := 6) C dz_84 (by decide) dX9_row_31 (fun S5 => ?_)
        refine dj_iconst C dX9_row_32 dc_iconst_0 ?_
        refine dj_istore_n (lv2 := [(0, .ref (g.1 82)), (1, .int x1), (2, .int x2), (3, .int 0)]) C [1, 2, 3, 0] dX9_row_33 rfl (by decide) rfl ?_
        refine jX9_row_L34 C rfl x1 x2 dk_FU 0 S5
      · refine dj_aload_n C 0 rfl dX9_row_19 ?_
        refine dj_iconst C dX9_row_20 dc_iconst_5 ?_
        refine dj_callVi (t := 9) (As := [.int 5]) C dw_X9_94 ⟨_, _, rfl⟩ (by decide) dz_82 (ct_X9_notes l g 5 r1.2) ⟨Nat.le_of_ble_eq_true rfl, Nat.le_of_ble_eq_true rfl⟩ rfl (Nat.le_of_ble_eq_true rfl) rfl dX9_row_21 (fun r8 => ?_)
        exact dj_iret C dX9_row_24
    · refine dj_iconst C dX9_row_13 dc_iconst_m1 ?_
      exact dj_iret C dX9_row_14
noncomputable def fX9_lay (x1 : Int32) (x2 : Int32) (x3 : Int32) (S : dk_S) : Option (Int32 × dk_S) := (fX9_isRow x1 S).bind (fun r1 => if r1.1 = 0 then some ((-1), r1.2) else dk_gd (dk_in x1 6) (if 0 ≤ (r1.2.1 84 x1.toNatClampNeg) then dk_gd (dk_in x1 6) ((fX9_in x2 0 ((r1.2.1 84 x1.toNatClampNeg) - 1) r1.2).bind (fun r4 => if r4.1 = 0 then (fX9_notes 2 r4.2).bind (fun r9 => some (r9.1, r9.2)) else (fX9_rowAt x1 x2 r4.2).bind (fun r6 => dk_gd (dk_in ((60 * x1) + x2) 360) (dk_lt (dk_si r6.2 85 ((60 * x1) + x2).toNatClampNeg x3) (fun S7 => (fX9_tells r6.1 1 S7).bind (fun r8 => some (r8.1, r8.2))))))) else (fX9_notes 1 r1.2).bind (fun r10 => some (r10.1, r10.2))))
set_option maxRecDepth 100000 in
set_option maxHeartbeats 4000000 in
theorem ct_X9_lay (l : Launch) (g : dk_G) (x1 : Int32) (x2 : Int32) (x3 : Int32) (S : dk_S)  : dk_M l g yX9_lay cX9_lay 5 (some .int) 2 42 [.ref (g.1 82), .int x1, .int x2, .int x3] S (fX9_lay x1 x2 x3 S) dk_qi := by
  refine dk_enter "DuckWalkModel" (by decide +kernel) rfl (Nat.le_of_ble_eq_true rfl) [(0, .ref (g.1 82)), (1, .int x1), (2, .int x2), (3, .int x3)] rfl ?_
  intro p e s m args below meth c C
  unfold fX9_lay
  refine dj_iload_n C 1 rfl dX9_lay_0 ?_
  refine dj_callSi (As := [.int x1]) C dw_X9_90 (ct_X9_isRow l g x1 S) ⟨Nat.le_of_ble_eq_true rfl, Nat.le_of_ble_eq_true rfl⟩ rfl (Nat.le_of_ble_eq_true rfl) rfl dX9_lay_1 (fun r1 => ?_)
  refine dj_if_ne (tgt := 9) C dX9_lay_4 (by decide) (fun c2 => ?_) (fun c2 => ?_)
  · refine dj_aload_n C 0 rfl dX9_lay_9 ?_
    refine dj_getr (r := 2) (k2 := 84) C dl_X9_13 rfl dz_82 rfl dX9_lay_10 ?_
    refine dj_iload_n C 1 rfl dX9_lay_13 ?_
    refine dj_iald (n := 6) C dz_84 (by decide) dX9_lay_14 ?_
    refine dj_if_ge (tgt := 24) C dX9_lay_15 (by decide) (fun c3 => ?_) (fun c3 => ?_)
    · refine dj_iload_n C 2 rfl dX9_lay_24 ?_
      refine dj_iconst C dX9_lay_25 dc_iconst_0 ?_
      refine dj_aload_n C 0 rfl dX9_lay_26 ?_
      refine dj_getr (r := 2) (k2 := 84) C dl_X9_13 rfl dz_82 rfl dX9_lay_27 ?_
      refine dj_iload_n C 1 rfl dX9_lay_30 ?_
      refine dj_iald (n := 6) C dz_84 (by decide) dX9_lay_31 ?_
      refine dj_iconst C dX9_lay_32 dc_iconst_1 ?_
      refine dj_isub C dX9_lay_33 ?_
      refine dj_callSi (As := [.int x2, .int 0, .int ((r1.2.1 84 x1.toNatClampNeg) - 1)]) C dw_X9_80 (ct_X9_in l g x2 0 ((r1.2.1 84 x1.toNatClampNeg) - 1) r1.2) ⟨Nat.le_of_ble_eq_true rfl, Nat.le_of_ble_eq_true rfl⟩ rfl (Nat.le_of_ble_eq_true rfl) rfl dX9_lay_34 (fun r4 => ?_)
      refine dj_if_ne (tgt := 46) C dX9_lay_37 (by decide) (fun c5 => ?_) (fun c5 => ?_)
      · refine dj_aload_n C 0 rfl dX9_lay_46 ?_
        refine dj_iload_n C 1 rfl dX9_lay_47 ?_
        refine dj_iload_n C 2 rfl dX9_lay_48 ?_
        refine dj_callVi (t := 9) (As := [.int x1, .int x2]) C dw_X9_98 ⟨_, _, rfl⟩ (by decide) dz_82 (ct_X9_rowAt l g x1 x2 r4.2) ⟨Nat.le_of_ble_eq_true rfl, Nat.le_of_ble_eq_true rfl⟩ rfl (Nat.le_of_ble_eq_true rfl) rfl dX9_lay_49 (fun r6 => ?_)
        refine dj_istore (lv2 := [(0, .ref (g.1 82)), (1, .int x1), (2, .int x2), (3, .int x3), (4, .int r6.1)]) C [1, 2, 3, 4, 0] dX9_lay_52 (by decide) rfl ?_
        refine dj_aload_n C 0 rfl dX9_lay_54 ?_
        refine dj_getr (r := 3) (k2 := 85) C dl_X9_16 rfl dz_82 rfl dX9_lay_55 ?_
        refine dj_bipush C dX9_lay_58 dc_bipush_60 ?_
        refine dj_iload_n C 1 rfl dX9_lay_60 ?_
        refine dj_imul C dX9_lay_61 ?_
        refine dj_iload_n C 2 rfl dX9_lay_62 ?_
        refine dj_iadd C dX9_lay_63 ?_
        refine dj_iload_n C 3 rfl dX9_lay_64 ?_
        refine dj_iast (n := 360) C dz_85 (by decide) dX9_lay_65 (fun S7 => ?_)
        refine dj_aload_n C 0 rfl dX9_lay_66 ?_
        refine dj_iload C 4 rfl dX9_lay_67 ?_
        refine dj_iconst C dX9_lay_69 dc_iconst_1 ?_
        refine dj_callVi (t := 9) (As := [.int r6.1, .int 1]) C dw_X9_102 ⟨_, _, rfl⟩ (by decide) dz_82 (ct_X9_tells l g r6.1 1 S7) ⟨Nat.le_of_ble_eq_true rfl, Nat.le_of_ble_eq_true rfl⟩ rfl (Nat.le_of_ble_eq_true rfl) rfl dX9_lay_70 (fun r8 => ?_)
        exact dj_iret C dX9_lay_73
      · refine dj_aload_n C 0 rfl dX9_lay_40 ?_
        refine dj_iconst C dX9_lay_41 dc_iconst_2 ?_
        refine dj_callVi (t := 9) (As := [.int 2]) C dw_X9_94 ⟨_, _, rfl⟩ (by decide) dz_82 (ct_X9_notes l g 2 r4.2) ⟨Nat.le_of_ble_eq_true rfl, Nat.le_of_ble_eq_true rfl⟩ rfl (Nat.le_of_ble_eq_true rfl) rfl dX9_lay_42 (fun r9 => ?_)
        exact dj_iret C dX9_lay_45
    · refine dj_aload_n C 0 rfl dX9_lay_18 ?_
      refine dj_iconst C dX9_lay_19 dc_iconst_1 ?_
      refine dj_callVi (t := 9) (As := [.int 1]) C dw_X9_94 ⟨_, _, rfl⟩ (by decide) dz_82 (ct_X9_notes l g 1 r1.2) ⟨Nat.le_of_ble_eq_true rfl, Nat.le_of_ble_eq_true rfl⟩ rfl (Nat.le_of_ble_eq_true rfl) rfl dX9_lay_20 (fun r10 => ?_)
      exact dj_iret C dX9_lay_23
  · refine dj_iconst C dX9_lay_7 dc_iconst_m1 ?_
    exact dj_iret C dX9_lay_8
noncomputable def fX9_at (x1 : Int32) (x2 : Int32) (S : dk_S) : Option (Int32 × dk_S) := (fX9_isRow x1 S).bind (fun r1 => if r1.1 = 0 then some ((-1), r1.2) else dk_gd (dk_in x1 6) (if 0 ≤ (r1.2.1 84 x1.toNatClampNeg) then dk_gd (dk_in x1 6) ((fX9_in x2 0 ((r1.2.1 84 x1.toNatClampNeg) - 1) r1.2).bind (fun r4 => if r4.1 = 0 then (fX9_notes 2 r4.2).bind (fun r6 => some (r6.1, r6.2)) else (fX9_rowAt x1 x2 r4.2).bind (fun r7 => (fX9_tells r7.1 1 r7.2).bind (fun r8 => some (r8.1, r8.2))))) else (fX9_notes 1 r1.2).bind (fun r9 => some (r9.1, r9.2))))
set_option maxRecDepth 100000 in
set_option maxHeartbeats 4000000 in
theorem ct_X9_at (l : Launch) (g : dk_G) (x1 : Int32) (x2 : Int32) (S : dk_S)  : dk_M l g yX9_at cX9_at 3 (some .int) 2 42 [.ref (g.1 82), .int x1, .int x2] S (fX9_at x1 x2 S) dk_qi := by
  refine dk_enter "DuckWalkModel" (by decide +kernel) rfl (Nat.le_of_ble_eq_true rfl) [(0, .ref (g.1 82)), (1, .int x1), (2, .int x2)] rfl ?_
  intro p e s m args below meth c C
  unfold fX9_at
  refine dj_iload_n C 1 rfl dX9_at_0 ?_
  refine dj_callSi (As := [.int x1]) C dw_X9_90 (ct_X9_isRow l g x1 S) ⟨Nat.le_of_ble_eq_true rfl, Nat.le_of_ble_eq_true rfl⟩ rfl (Nat.le_of_ble_eq_true rfl) rfl dX9_at_1 (fun r1 => ?_)
  refine dj_if_ne (tgt := 9) C dX9_at_4 (by decide) (fun c2 => ?_) (fun c2 => ?_)
  · refine dj_aload_n C 0 rfl dX9_at_9 ?_
    refine dj_getr (r := 2) (k2 := 84) C dl_X9_13 rfl dz_82 rfl dX9_at_10 ?_
    refine dj_iload_n C 1 rfl dX9_at_13 ?_
    refine dj_iald (n := 6) C dz_84 (by decide) dX9_at_14 ?_
    refine dj_if_ge (tgt := 24) C dX9_at_15 (by decide) (fun c3 => ?_) (fun c3 => ?_)
    · refine dj_iload_n C 2 rfl dX9_at_24 ?_
      refine dj_iconst C dX9_at_25 dc_iconst_0 ?_
      refine dj_aload_n C 0 rfl dX9_at_26 ?_
      refine dj_getr (r := 2) (k2 := 84) C dl_X9_13 rfl dz_82 rfl dX9_at_27 ?_
      refine dj_iload_n C 1 rfl dX9_at_30 ?_
      refine dj_iald (n := 6) C dz_84 (by decide) dX9_at_31 ?_
      refine dj_iconst C dX9_at_32 dc_iconst_1 ?_
      refine dj_isub C dX9_at_33 ?_
      refine dj_callSi (As := [.int x2, .int 0, .int ((r1.2.1 84 x1.toNatClampNeg) - 1)]) C dw_X9_80 (ct_X9_in l g x2 0 ((r1.2.1 84 x1.toNatClampNeg) - 1) r1.2) ⟨Nat.le_of_ble_eq_true rfl, Nat.le_of_ble_eq_true rfl⟩ rfl (Nat.le_of_ble_eq_true rfl) rfl dX9_at_34 (fun r4 => ?_)
      refine dj_if_eq (tgt := 54) C dX9_at_37 (by decide) (fun c5 => ?_) (fun c5 => ?_)
      · refine dj_aload_n C 0 rfl dX9_at_54 ?_
        refine dj_iconst C dX9_at_55 dc_iconst_2 ?_
        refine dj_callVi (t := 9) (As := [.int 2]) C dw_X9_94 ⟨_, _, rfl⟩ (by decide) dz_82 (ct_X9_notes l g 2 r4.2) ⟨Nat.le_of_ble_eq_true rfl, Nat.le_of_ble_eq_true rfl⟩ rfl (Nat.le_of_ble_eq_true rfl) rfl dX9_at_56 (fun r6 => ?_)
        exact dj_iret C dX9_at_59
      · refine dj_aload_n C 0 rfl dX9_at_40 ?_
        refine dj_aload_n C 0 rfl dX9_at_41 ?_
        refine dj_iload_n C 1 rfl dX9_at_42 ?_
        refine dj_iload_n C 2 rfl dX9_at_43 ?_
        refine dj_callVi (t := 9) (As := [.int x1, .int x2]) C dw_X9_98 ⟨_, _, rfl⟩ (by decide) dz_82 (ct_X9_rowAt l g x1 x2 r4.2) ⟨Nat.le_of_ble_eq_true rfl, Nat.le_of_ble_eq_true rfl⟩ rfl (Nat.le_of_ble_eq_true rfl) rfl dX9_at_44 (fun r7 => ?_)
        refine dj_iconst C dX9_at_47 dc_iconst_1 ?_
        refine dj_callVi (t := 9) (As := [.int r7.1, .int 1]) C dw_X9_102 ⟨_, _, rfl⟩ (by decide) dz_82 (ct_X9_tells l g r7.1 1 r7.2) ⟨Nat.le_of_ble_eq_true rfl, Nat.le_of_ble_eq_true rfl⟩ rfl (Nat.le_of_ble_eq_true rfl) rfl dX9_at_48 (fun r8 => ?_)
        refine dj_goto (tgt := 59) C dX9_at_51 (by decide) ?_
        exact dj_iret C dX9_at_59
    · refine dj_aload_n C 0 rfl dX9_at_18 ?_
      refine dj_iconst C dX9_at_19 dc_iconst_1 ?_
      refine dj_callVi (t := 9) (As := [.int 1]) C dw_X9_94 ⟨_, _, rfl⟩ (by decide) dz_82 (ct_X9_notes l g 1 r1.2) ⟨Nat.le_of_ble_eq_true rfl, Nat.le_of_ble_eq_true rfl⟩ rfl (Nat.le_of_ble_eq_true rfl) rfl dX9_at_20 (fun r9 => ?_)
      exact dj_iret C dX9_at_23
  · refine dj_iconst C dX9_at_7 dc_iconst_m1 ?_
    exact dj_iret C dX9_at_8
noncomputable def fX9_tear (x1 : Int32) (S : dk_S) : Option (Int32 × dk_S) := (fX9_isRow x1 S).bind (fun r1 => if r1.1 = 0 then some ((-1), r1.2) else dk_gd (dk_in x1 6) (if 0 ≤ (r1.2.1 84 x1.toNatClampNeg) then dk_gd (dk_in x1 6) (dk_lt (dk_si r1.2 84 x1.toNatClampNeg (-1)) (fun S4 => some (1, S4))) else (fX9_notes 1 r1.2).bind (fun r5 => some (r5.1, r5.2))))
set_option maxRecDepth 100000 in
set_option maxHeartbeats 4000000 in
theorem ct_X9_tear (l : Launch) (g : dk_G) (x1 : Int32) (S : dk_S)  : dk_M l g yX9_tear cX9_tear 2 (some .int) 2 42 [.ref (g.1 82), .int x1] S (fX9_tear x1 S) dk_qi := by
  refine dk_enter "DuckWalkModel" (by decide +kernel) rfl (Nat.le_of_ble_eq_true rfl) [(0, .ref (g.1 82)), (1, .int x1)] rfl ?_
  intro p e s m args below meth c C
  unfold fX9_tear
  refine dj_iload_n C 1 rfl dX9_tear_0 ?_
  refine dj_callSi (As := [.int x1]) C dw_X9_90 (ct_X9_isRow l g x1 S) ⟨Nat.le_of_ble_eq_true rfl, Nat.le_of_ble_eq_true rfl⟩ rfl (Nat.le_of_ble_eq_true rfl) rfl dX9_tear_1 (fun r1 => ?_)
  refine dj_if_ne (tgt := 9) C dX9_tear_4 (by decide) (fun c2 => ?_) (fun c2 => ?_)
  · refine dj_aload_n C 0 rfl dX9_tear_9 ?_
    refine dj_getr (r := 2) (k2 := 84) C dl_X9_13 rfl dz_82 rfl dX9_tear_10 ?_
    refine dj_iload_n C 1 rfl dX9_tear_13 ?_
    refine dj_iald (n := 6) C dz_84 (by decide) dX9_tear_14 ?_
    refine dj_if_ge (tgt := 24) C dX9_tear_15 (by decide) (fun c3 => ?_) (fun c3 => ?_)
    · refine dj_aload_n C 0 rfl dX9_tear_24 ?_
      refine dj_getr (r := 2) (k2 := 84) C dl_X9_13 rfl dz_82 rfl dX9_tear_25 ?_
      refine dj_iload_n C 1 rfl dX9_tear_28 ?_
      refine dj_iconst C dX9_tear_29 dc_iconst_m1 ?_
      refine dj_iast (n := 6) C dz_84 (by decide) dX9_tear_30 (fun S4 => ?_)
      refine dj_iconst C dX9_tear_31 dc_iconst_1 ?_
      exact dj_iret C dX9_tear_32
    · refine dj_aload_n C 0 rfl dX9_tear_18 ?_
      refine dj_iconst C dX9_tear_19 dc_iconst_1 ?_
      refine dj_callVi (t := 9) (As := [.int 1]) C dw_X9_94 ⟨_, _, rfl⟩ (by decide) dz_82 (ct_X9_notes l g 1 r1.2) ⟨Nat.le_of_ble_eq_true rfl, Nat.le_of_ble_eq_true rfl⟩ rfl (Nat.le_of_ble_eq_true rfl) rfl dX9_tear_20 (fun r5 => ?_)
      exact dj_iret C dX9_tear_23
  · refine dj_iconst C dX9_tear_7 dc_iconst_m1 ?_
    exact dj_iret C dX9_tear_8
noncomputable def fX9_copy_L136 (x3 : Int32) (x4 : Int32) (x5 : Int32) : Nat → Int32 → dk_S → Option (Int32 × dk_S)
  | 0, _, _ => none
  | n + 1, x6, S => if x5 ≤ x6 then some (1, S) else dk_gd (dk_in x6 60) (dk_gd (dk_in (((60 * x3) + x4) + x6) 360) (dk_lt (dk_si S 85 (((60 * x3) + x4) + x6).toNatClampNeg (S.1 86 x6.toNatClampNeg)) (fun S18 => fX9_copy_L136 x3 x4 x5 n (x6 + 1) S18)))
noncomputable def fX9_copy_L104 (x1 : Int32) (x2 : Int32) (x3 : Int32) (x4 : Int32) (x5 : Int32) (kx133 : dk_S → Option (Int32 × dk_S)) : Nat → Int32 → dk_S → Option (Int32 × dk_S)
  | 0, _, _ => none
  | n + 1, x6, S => if x5 ≤ x6 then kx133 S else (fX9_rowAt x1 (x2 + x6) S).bind (fun r20 => dk_gd (dk_in x6 60) (dk_lt (dk_si r20.2 86 x6.toNatClampNeg r20.1) (fun S21 => fX9_copy_L104 x1 x2 x3 x4 x5 kx133 n (x6 + 1) S21)))
noncomputable def fX9_copy (x1 : Int32) (x2 : Int32) (x3 : Int32) (x4 : Int32) (x5 : Int32) (S : dk_S) : Option (Int32 × dk_S) := (fX9_isRow x1 S).bind (fun r1 => if r1.1 = 0 then some ((-1), r1.2) else (fX9_isRow x3 r1.2).bind (fun r3 => if r3.1 = 0 then some ((-1), r3.2) else if 0 ≤ x5 then dk_gd (dk_in x1 6) (if (r3.2.1 84 x1.toNatClampNeg) < 0 then (fX9_notes 1 r3.2).bind (fun r7 => some (r7.1, r7.2)) else dk_gd (dk_in x3 6) (if 0 ≤ (r3.2.1 84 x3.toNatClampNeg) then if x2 < 0 then (fX9_notes 2 r3.2).bind (fun r10 => some (r10.1, r10.2)) else if x4 < 0 then (fX9_notes 2 r3.2).bind (fun r12 => some (r12.1, r12.2)) else dk_gd (dk_in x1 6) (if 0 < (lg_cmp (x2.toInt64 + x5.toInt64) ((r3.2.1 84 x1.toNatClampNeg).toInt64)) then (fX9_notes 2 r3.2).bind (fun r14 => some (r14.1, r14.2)) else dk_gd (dk_in x3 6) (if (lg_cmp (x4.toInt64 + x5.toInt64) ((r3.2.1 84 x3.toNatClampNeg).toInt64)) ≤ 0 then fX9_copy_L104 x1 x2 x3 x4 x5 (fun t16 : dk_S => fX9_copy_L136 x3 x4 x5 dk_FU 0 t16) dk_FU 0 r3.2 else (fX9_notes 2 r3.2).bind (fun r22 => some (r22.1, r22.2)))) else (fX9_notes 1 r3.2).bind (fun r23 => some (r23.1, r23.2)))) else (fX9_notes 5 r3.2).bind (fun r24 => some (r24.1, r24.2))))
set_option maxRecDepth 100000 in
set_option maxHeartbeats 4000000 in
theorem jX9_copy_L136 {p : Program} {l : Launch} {e : Env} {R : Room} {s : State} {m : MethodId} {args : Array Value} {below : List Frame} {meth : Method} {c : Code} {g : dk_G} (C : dk_C p l e R s m args below meth c g cX9_copy "DuckWalkModel" 7 (some .int)) (hR : R = { frames := 2, cells := 0, slots := 0, locals := 42 }) (x3 : Int32) (x4 : Int32) (x5 : Int32)   : ∀ (n : Nat) (x6 : Int32) (S : dk_S), dk_J p l e R s m args below meth c g 7 dk_qi 136 [(0, .ref (g.1 82)), (3, .int x3), (4, .int x4), (5, .int x5), (6, .int x6)] [] S (fX9_copy_L136 x3 x4 x5 n x6 S) some := by
  subst hR
  intro n
  induction n with
  | zero =>
    intro x6 S
    exact dj_none
  | succ n ih =>
    intro x6 S
    rw [fX9_copy_L136]
    refine dj_iload C 4 rfl dX9_copy_136 ?_
    refine dj_iload C 3 rfl dX9_copy_138 ?_
    refine dj_icmp_ge (tgt := 171) C dX9_copy_140 (by decide) (fun c17 => ?_) (fun c17 => ?_)
    · refine dj_iconst C dX9_copy_171 dc_iconst_1 ?_
      exact dj_iret C dX9_copy_172
    · refine dj_aload_n C 0 rfl dX9_copy_143 ?_
      refine dj_getr (r := 3) (k2 := 85) C dl_X9_16 rfl dz_82 rfl dX9_copy_144 ?_
      refine dj_bipush C dX9_copy_147 dc_bipush_60 ?_
      refine dj_iload_n C 1 rfl dX9_copy_149 ?_
      refine dj_imul C dX9_copy_150 ?_
      refine dj_iload C 2 rfl dX9_copy_151 ?_
      refine dj_iadd C dX9_copy_153 ?_
      refine dj_iload C 4 rfl dX9_copy_154 ?_
      refine dj_iadd C dX9_copy_156 ?_
      refine dj_aload_n C 0 rfl dX9_copy_157 ?_
      refine dj_getr (r := 4) (k2 := 86) C dl_X9_19 rfl dz_82 rfl dX9_copy_158 ?_
      refine dj_iload C 4 rfl dX9_copy_161 ?_
      refine dj_iald (n := 60) C dz_86 (by decide) dX9_copy_163 ?_
      refine dj_iast (n := 360) C dz_85 (by decide) dX9_copy_164 (fun S18 => ?_)
      refine dj_iinc (lv2 := [(0, .ref (g.1 82)), (3, .int x3), (4, .int x4), (5, .int x5), (6, .int (x6 + 1))]) C 4 rfl [1, 2, 3, 4, 0] dX9_copy_165 dc_iconst_1 (by decide) rfl ?_
      refine dj_goto (tgt := 136) C dX9_copy_168 (by decide) ?_
      exact ih (x6 + 1) S18
set_option maxRecDepth 100000 in
set_option maxHeartbeats 4000000 in
theorem jX9_copy_L104 {p : Program} {l : Launch} {e : Env} {R : Room} {s : State} {m : MethodId} {args : Array Value} {below : List Frame} {meth : Method} {c : Code} {g : dk_G} (C : dk_C p l e R s m args below meth c g cX9_copy "DuckWalkModel" 7 (some .int)) (hR : R = { frames := 2, cells := 0, slots := 0, locals := 42 }) (x1 : Int32) (x2 : Int32) (x3 : Int32) (x4 : Int32) (x5 : Int32) (kx133 : dk_S → Option (Int32 × dk_S))  (hkx133 : ∀ t : dk_S, dk_J p l e R s m args below meth c g 7 dk_qi 133 [(0, .ref (g.1 82)), (3, .int x3), (4, .int x4), (5, .int x5)] [] t (kx133 t) some) : ∀ (n : Nat) (x6 : Int32) (S : dk_S), dk_J p l e R s m args below meth c g 7 dk_qi 104 [(0, .ref (g.1 82)), (1, .int x1), (2, .int x2), (3, .int x3), (4, .int x4), (5, .int x5), (6, .int x6)] [] S (fX9_copy_L104 x1 x2 x3 x4 x5 kx133 n x6 S) some := by
  subst hR
  intro n
  induction n with
  | zero =>
    intro x6 S
    exact dj_none
  | succ n ih =>
    intro x6 S
    rw [fX9_copy_L104]
    refine dj_iload C 6 rfl dX9_copy_104 ?_
    refine dj_iload C 5 rfl dX9_copy_106 ?_
    refine dj_icmp_ge (tgt := 133) C dX9_copy_108 (by decide) (fun c19 => ?_) (fun c19 => ?_)
    · refine dj_sub (lv2 := [(0, .ref (g.1 82)), (3, .int x3), (4, .int x4), (5, .int x5)]) [0, 3, 4, 5] rfl ?_
      exact hkx133 S
    · refine dj_aload_n C 0 rfl dX9_copy_111 ?_
      refine dj_getr (r := 4) (k2 := 86) C dl_X9_19 rfl dz_82 rfl dX9_copy_112 ?_
      refine dj_iload C 6 rfl dX9_copy_115 ?_
      refine dj_aload_n C 0 rfl dX9_copy_117 ?_
      refine dj_iload_n C 1 rfl dX9_copy_118 ?_
      refine dj_iload_n C 2 rfl dX9_copy_119 ?_
      refine dj_iload C 6 rfl dX9_copy_120 ?_
      refine dj_iadd C dX9_copy_122 ?_
      refine dj_callVi (t := 9) (As := [.int x1, .int (x2 + x6)]) C dw_X9_98 ⟨_, _, rfl⟩ (by decide) dz_82 (ct_X9_rowAt l g x1 (x2 + x6) S) ⟨Nat.le_of_ble_eq_true rfl, Nat.le_of_ble_eq_true rfl⟩ rfl (Nat.le_of_ble_eq_true rfl) rfl dX9_copy_123 (fun r20 => ?_)
      refine dj_iast (n := 60) C dz_86 (by decide) dX9_copy_126 (fun S21 => ?_)
      refine dj_iinc (lv2 := [(0, .ref (g.1 82)), (1, .int x1), (2, .int x2), (3, .int x3), (4, .int x4), (5, .int x5), (6, .int (x6 + 1))]) C 6 rfl [1, 2, 3, 4, 5, 6, 0] dX9_copy_127 dc_iconst_1 (by decide) rfl ?_
      refine dj_goto (tgt := 104) C dX9_copy_130 (by decide) ?_
      exact ih (x6 + 1) S21
set_option maxRecDepth 100000 in
set_option maxHeartbeats 4000000 in
theorem ct_X9_copy (l : Launch) (g : dk_G) (x1 : Int32) (x2 : Int32) (x3 : Int32) (x4 : Int32) (x5 : Int32) (S : dk_S)  : dk_M l g yX9_copy cX9_copy 7 (some .int) 2 42 [.ref (g.1 82), .int x1, .int x2, .int x3, .int x4, .int x5] S (fX9_copy x1 x2 x3 x4 x5 S) dk_qi := by
  refine dk_enter "DuckWalkModel" (by decide +kernel) rfl (Nat.le_of_ble_eq_true rfl) [(0, .ref (g.1 82)), (1, .int x1), (2, .int x2), (3, .int x3), (4, .int x4), (5, .int x5)] rfl ?_
  intro p e s m args below meth c C
  unfold fX9_copy
  refine dj_iload_n C 1 rfl dX9_copy_0 ?_
  refine dj_callSi (As := [.int x1]) C dw_X9_90 (ct_X9_isRow l g x1 S) ⟨Nat.le_of_ble_eq_true rfl, Nat.le_of_ble_eq_true rfl⟩ rfl (Nat.le_of_ble_eq_true rfl) rfl dX9_copy_1 (fun r1 => ?_)
  refine dj_if_eq (tgt := 14) C dX9_copy_4 (by decide) (fun c2 => ?_) (fun c2 => ?_)
  · refine dj_iconst C dX9_copy_14 dc_iconst_m1 ?_
    exact dj_iret C dX9_copy_15
  · refine dj_iload_n C 3 rfl dX9_copy_7 ?_
    refine dj_callSi (As := [.int x3]) C dw_X9_90 (ct_X9_isRow l g x3 r1.2) ⟨Nat.le_of_ble_eq_true rfl, Nat.le_of_ble_eq_true rfl⟩ rfl (Nat.le_of_ble_eq_true rfl) rfl dX9_copy_8 (fun r3 => ?_)
    refine dj_if_ne (tgt := 16) C dX9_copy_11 (by decide) (fun c4 => ?_) (fun c4 => ?_)
    · refine dj_iload C 5 rfl dX9_copy_16 ?_
      refine dj_if_ge (tgt := 27) C dX9_copy_18 (by decide) (fun c5 => ?_) (fun c5 => ?_)
      · refine dj_aload_n C 0 rfl dX9_copy_27 ?_
        refine dj_getr (r := 2) (k2 := 84) C dl_X9_13 rfl dz_82 rfl dX9_copy_28 ?_
        refine dj_iload_n C 1 rfl dX9_copy_31 ?_
        refine dj_iald (n := 6) C dz_84 (by decide) dX9_copy_32 ?_
        refine dj_if_lt (tgt := 45) C dX9_copy_33 (by decide) (fun c6 => ?_) (fun c6 => ?_)
        · refine dj_aload_n C 0 rfl dX9_copy_45 ?_
          refine dj_iconst C dX9_copy_46 dc_iconst_1 ?_
          refine dj_callVi (t := 9) (As := [.int 1]) C dw_X9_94 ⟨_, _, rfl⟩ (by decide) dz_82 (ct_X9_notes l g 1 r3.2) ⟨Nat.le_of_ble_eq_true rfl, Nat.le_of_ble_eq_true rfl⟩ rfl (Nat.le_of_ble_eq_true rfl) rfl dX9_copy_47 (fun r7 => ?_)
          exact dj_iret C dX9_copy_50
        · refine dj_aload_n C 0 rfl dX9_copy_36 ?_
          refine dj_getr (r := 2) (k2 := 84) C dl_X9_13 rfl dz_82 rfl dX9_copy_37 ?_
          refine dj_iload_n C 3 rfl dX9_copy_40 ?_
          refine dj_iald (n := 6) C dz_84 (by decide) dX9_copy_41 ?_
          refine dj_if_ge (tgt := 51) C dX9_copy_42 (by decide) (fun c8 => ?_) (fun c8 => ?_)
          · refine dj_iload_n C 2 rfl dX9_copy_51 ?_
            refine dj_if_lt (tgt := 95) C dX9_copy_52 (by decide) (fun c9 => ?_) (fun c9 => ?_)
            · refine dj_aload_n C 0 rfl dX9_copy_95 ?_
              refine dj_iconst C dX9_copy_96 dc_iconst_2 ?_
              refine dj_callVi (t := 9) (As := [.int 2]) C dw_X9_94 ⟨_, _, rfl⟩ (by decide) dz_82 (ct_X9_notes l g 2 r3.2) ⟨Nat.le_of_ble_eq_true rfl, Nat.le_of_ble_eq_true rfl⟩ rfl (Nat.le_of_ble_eq_true rfl) rfl dX9_copy_97 (fun r10 => ?_)
              exact dj_iret C dX9_copy_100
            · refine dj_iload C 4 rfl dX9_copy_55 ?_
              refine dj_if_lt (tgt := 95) C dX9_copy_57 (by decide) (fun c11 => ?_) (fun c11 => ?_)
              · refine dj_aload_n C 0 rfl dX9_copy_95 ?_
                refine dj_iconst C dX9_copy_96 dc_iconst_2 ?_
                refine dj_callVi (t := 9) (As := [.int 2]) C dw_X9_94 ⟨_, _, rfl⟩ (by decide) dz_82 (ct_X9_notes l g 2 r3.2) ⟨Nat.le_of_ble_eq_true rfl, Nat.le_of_ble_eq_true rfl⟩ rfl (Nat.le_of_ble_eq_true rfl) rfl dX9_copy_97 (fun r12 => ?_)
                exact dj_iret C dX9_copy_100
              · refine dj_iload_n C 2 rfl dX9_copy_60 ?_
                refine dj_i2l C dX9_copy_61 ?_
                refine dj_iload C 5 rfl dX9_copy_62 ?_
                refine dj_i2l C dX9_copy_64 ?_
                refine dj_ladd C dX9_copy_65 ?_
                refine dj_aload_n C 0 rfl dX9_copy_66 ?_
                refine dj_getr (r := 2) (k2 := 84) C dl_X9_13 rfl dz_82 rfl dX9_copy_67 ?_
                refine dj_iload_n C 1 rfl dX9_copy_70 ?_
                refine dj_iald (n := 6) C dz_84 (by decide) dX9_copy_71 ?_
                refine dj_i2l C dX9_copy_72 ?_
                refine dj_lcmp C dX9_copy_73 ?_
                refine dj_if_gt (tgt := 95) C dX9_copy_74 (by decide) (fun c13 => ?_) (fun c13 => ?_)
                · refine dj_aload_n C 0 rfl dX9_copy_95 ?_
                  refine dj_iconst C dX9_copy_96 dc_iconst_2 ?_
                  refine dj_callVi (t := 9) (As := [.int 2]) C dw_X9_94 ⟨_, _, rfl⟩ (by decide) dz_82 (ct_X9_notes l g 2 r3.2) ⟨Nat.le_of_ble_eq_true rfl, Nat.le_of_ble_eq_true rfl⟩ rfl (Nat.le_of_ble_eq_true rfl) rfl dX9_copy_97 (fun r14 => ?_)
                  exact dj_iret C dX9_copy_100
                · refine dj_iload C 4 rfl dX9_copy_77 ?_
                  refine dj_i2l C dX9_copy_79 ?_
                  refine dj_iload C 5 rfl dX9_copy_80 ?_
                  refine dj_i2l C dX9_copy_82 ?_
                  refine dj_ladd C dX9_copy_83 ?_
                  refine dj_aload_n C 0 rfl dX9_copy_84 ?_
                  refine dj_getr (r := 2) (k2 := 84) C dl_X9_13 rfl dz_82 rfl dX9_copy_85 ?_
                  refine dj_iload_n C 3 rfl dX9_copy_88 ?_
                  refine dj_iald (n := 6) C dz_84 (by decide) dX9_copy_89 ?_
                  refine dj_i2l C dX9_copy_90 ?_
                  refine dj_lcmp C dX9_copy_91 ?_
                  refine dj_if_le (tgt := 101) C dX9_copy_92 (by decide) (fun c15 => ?_) (fun c15 => ?_)
                  · refine dj_iconst C dX9_copy_101 dc_iconst_0 ?_
                    refine dj_istore (lv2 := [(0, .ref (g.1 82)), (1, .int x1), (2, .int x2), (3, .int x3), (4, .int x4), (5, .int x5), (6, .int 0)]) C [1, 2, 3, 4, 5, 6, 0] dX9_copy_102 (by decide) rfl ?_
                    refine jX9_copy_L104 C rfl x1 x2 x3 x4 x5 _ (fun t16 => ?_) dk_FU 0 r3.2
                    · refine dj_iconst C dX9_copy_133 dc_iconst_0 ?_
                      refine dj_istore (lv2 := [(0, .ref (g.1 82)), (3, .int x3), (4, .int x4), (5, .int x5), (6, .int 0)]) C [1, 2, 3, 4, 0] dX9_copy_134 (by decide) rfl ?_
                      refine jX9_copy_L136 C rfl x3 x4 x5 dk_FU 0 t16
                  · refine dj_aload_n C 0 rfl dX9_copy_95 ?_
                    refine dj_iconst C dX9_copy_96 dc_iconst_2 ?_
                    refine dj_callVi (t := 9) (As := [.int 2]) C dw_X9_94 ⟨_, _, rfl⟩ (by decide) dz_82 (ct_X9_notes l g 2 r3.2) ⟨Nat.le_of_ble_eq_true rfl, Nat.le_of_ble_eq_true rfl⟩ rfl (Nat.le_of_ble_eq_true rfl) rfl dX9_copy_97 (fun r22 => ?_)
                    exact dj_iret C dX9_copy_100
          · refine dj_aload_n C 0 rfl dX9_copy_45 ?_
            refine dj_iconst C dX9_copy_46 dc_iconst_1 ?_
            refine dj_callVi (t := 9) (As := [.int 1]) C dw_X9_94 ⟨_, _, rfl⟩ (by decide) dz_82 (ct_X9_notes l g 1 r3.2) ⟨Nat.le_of_ble_eq_true rfl, Nat.le_of_ble_eq_true rfl⟩ rfl (Nat.le_of_ble_eq_true rfl) rfl dX9_copy_47 (fun r23 => ?_)
            exact dj_iret C dX9_copy_50
      · refine dj_aload_n C 0 rfl dX9_copy_21 ?_
        refine dj_iconst C dX9_copy_22 dc_iconst_5 ?_
        refine dj_callVi (t := 9) (As := [.int 5]) C dw_X9_94 ⟨_, _, rfl⟩ (by decide) dz_82 (ct_X9_notes l g 5 r3.2) ⟨Nat.le_of_ble_eq_true rfl, Nat.le_of_ble_eq_true rfl⟩ rfl (Nat.le_of_ble_eq_true rfl) rfl dX9_copy_23 (fun r24 => ?_)
        exact dj_iret C dX9_copy_26
    · refine dj_iconst C dX9_copy_14 dc_iconst_m1 ?_
      exact dj_iret C dX9_copy_15
noncomputable def fX9_mean_L44 (x1 : Int32) (kx72 : (Int64 × dk_S) → Option (Int32 × dk_S)) : Nat → Int64 → Int32 → dk_S → Option (Int32 × dk_S)
  | 0, _, _, _ => none
  | n + 1, x2, x4, S => dk_gd (dk_in x1 6) (if (S.1 84 x1.toNatClampNeg) ≤ x4 then kx72 (x2, S) else (fX9_rowAt x1 x4 S).bind (fun r8 => dk_lt (x2 + r8.1.toInt64) (fun y9 : Int64 => fX9_mean_L44 x1 kx72 n y9 (x4 + 1) r8.2)))
noncomputable def fX9_mean (x1 : Int32) (S : dk_S) : Option (Int32 × dk_S) := (fX9_isRow x1 S).bind (fun r1 => if r1.1 = 0 then some ((-1), r1.2) else dk_gd (dk_in x1 6) (if 0 ≤ (r1.2.1 84 x1.toNatClampNeg) then dk_gd (dk_in x1 6) (if (r1.2.1 84 x1.toNatClampNeg) = 0 then (fX9_notes 4 r1.2).bind (fun r10 => some (r10.1, r10.2)) else fX9_mean_L44 x1 (fun t5 : Int64 × dk_S => dk_gd (dk_in x1 6) (dk_gd (decide (¬ ((t5.2.1 84 x1.toNatClampNeg).toInt64) = 0)) ((fX9_tells ((t5.1 / ((t5.2.1 84 x1.toNatClampNeg).toInt64)).toInt32) 1 t5.2).bind (fun r6 => some (r6.1, r6.2))))) dk_FU 0 0 r1.2) else (fX9_notes 1 r1.2).bind (fun r11 => some (r11.1, r11.2))))
set_option maxRecDepth 100000 in
set_option maxHeartbeats 4000000 in
theorem jX9_mean_L44 {p : Program} {l : Launch} {e : Env} {R : Room} {s : State} {m : MethodId} {args : Array Value} {below : List Frame} {meth : Method} {c : Code} {g : dk_G} (C : dk_C p l e R s m args below meth c g cX9_mean "DuckWalkModel" 5 (some .int)) (hR : R = { frames := 2, cells := 0, slots := 0, locals := 42 }) (x1 : Int32) (kx72 : (Int64 × dk_S) → Option (Int32 × dk_S))  (hkx72 : ∀ t : Int64 × dk_S, dk_J p l e R s m args below meth c g 5 dk_qi 72 [(0, .ref (g.1 82)), (1, .int x1), (2, .long t.1)] [] t.2 (kx72 t) some) : ∀ (n : Nat) (x2 : Int64) (x4 : Int32) (S : dk_S), dk_J p l e R s m args below meth c g 5 dk_qi 44 [(0, .ref (g.1 82)), (1, .int x1), (2, .long x2), (4, .int x4)] [] S (fX9_mean_L44 x1 kx72 n x2 x4 S) some := by
  subst hR
  intro n
  induction n with
  | zero =>
    intro x2 x4 S
    exact dj_none
  | succ n ih =>
    intro x2 x4 S
    rw [fX9_mean_L44]
    refine dj_iload C 3 rfl dX9_mean_44 ?_
    refine dj_aload_n C 0 rfl dX9_mean_46 ?_
    refine dj_getr (r := 2) (k2 := 84) C dl_X9_13 rfl dz_82 rfl dX9_mean_47 ?_
    refine dj_iload_n C 1 rfl dX9_mean_50 ?_
    refine dj_iald (n := 6) C dz_84 (by decide) dX9_mean_51 ?_
    refine dj_icmp_ge (tgt := 72) C dX9_mean_52 (by decide) (fun c7 => ?_) (fun c7 => ?_)
    · refine dj_sub (lv2 := [(0, .ref (g.1 82)), (1, .int x1), (2, .long x2)]) [0, 1, 2] rfl ?_
      exact hkx72 (x2, S)
    · refine dj_lload_n C 2 rfl dX9_mean_55 ?_
      refine dj_aload_n C 0 rfl dX9_mean_56 ?_
      refine dj_iload_n C 1 rfl dX9_mean_57 ?_
      refine dj_iload C 3 rfl dX9_mean_58 ?_
      refine dj_callVi (t := 9) (As := [.int x1, .int x4]) C dw_X9_98 ⟨_, _, rfl⟩ (by decide) dz_82 (ct_X9_rowAt l g x1 x4 S) ⟨Nat.le_of_ble_eq_true rfl, Nat.le_of_ble_eq_true rfl⟩ rfl (Nat.le_of_ble_eq_true rfl) rfl dX9_mean_60 (fun r8 => ?_)
      refine dj_i2l C dX9_mean_63 ?_
      refine dj_ladd C dX9_mean_64 ?_
      refine dj_ltl (fun y9 => ?_)
      refine dj_lstore_n (lv2 := [(0, .ref (g.1 82)), (1, .int x1), (2, .long y9), (4, .int x4)]) C [1, 2, 0, 3] dX9_mean_65 rfl (by decide) rfl ?_
      refine dj_iinc (lv2 := [(0, .ref (g.1 82)), (1, .int x1), (2, .long y9), (4, .int (x4 + 1))]) C 3 rfl [1, 2, 3, 0] dX9_mean_66 dc_iconst_1 (by decide) rfl ?_
      refine dj_goto (tgt := 44) C dX9_mean_69 (by decide) ?_
      exact ih y9 (x4 + 1) r8.2
set_option maxRecDepth 100000 in
set_option maxHeartbeats 4000000 in
theorem ct_X9_mean (l : Launch) (g : dk_G) (x1 : Int32) (S : dk_S)  : dk_M l g yX9_mean cX9_mean 5 (some .int) 2 42 [.ref (g.1 82), .int x1] S (fX9_mean x1 S) dk_qi := by
  refine dk_enter "DuckWalkModel" (by decide +kernel) rfl (Nat.le_of_ble_eq_true rfl) [(0, .ref (g.1 82)), (1, .int x1)] rfl ?_
  intro p e s m args below meth c C
  unfold fX9_mean
  refine dj_iload_n C 1 rfl dX9_mean_0 ?_
  refine dj_callSi (As := [.int x1]) C dw_X9_90 (ct_X9_isRow l g x1 S) ⟨Nat.le_of_ble_eq_true rfl, Nat.le_of_ble_eq_true rfl⟩ rfl (Nat.le_of_ble_eq_true rfl) rfl dX9_mean_1 (fun r1 => ?_)
  refine dj_if_ne (tgt := 9) C dX9_mean_4 (by decide) (fun c2 => ?_) (fun c2 => ?_)
  · refine dj_aload_n C 0 rfl dX9_mean_9 ?_
    refine dj_getr (r := 2) (k2 := 84) C dl_X9_13 rfl dz_82 rfl dX9_mean_10 ?_
    refine dj_iload_n C 1 rfl dX9_mean_13 ?_
    refine dj_iald (n := 6) C dz_84 (by decide) dX9_mean_14 ?_
    refine dj_if_ge (tgt := 24) C dX9_mean_15 (by decide) (fun c3 => ?_) (fun c3 => ?_)
    · refine dj_aload_n C 0 rfl dX9_mean_24 ?_
      refine dj_getr (r := 2) (k2 := 84) C dl_X9_13 rfl dz_82 rfl dX9_mean_25 ?_
      refine dj_iload_n C 1 rfl dX9_mean_28 ?_
      refine dj_iald (n := 6) C dz_84 (by decide) dX9_mean_29 ?_
      refine dj_if_ne (tgt := 39) C dX9_mean_30 (by decide) (fun c4 => ?_) (fun c4 => ?_)
      · refine dj_lconst (v := 0) C dX9_mean_39 rfl ?_
        refine dj_lstore_n (lv2 := [(0, .ref (g.1 82)), (1, .int x1), (2, .long 0)]) C [1, 2, 0] dX9_mean_40 rfl (by decide) rfl ?_
        refine dj_iconst C dX9_mean_41 dc_iconst_0 ?_
        refine dj_istore (lv2 := [(0, .ref (g.1 82)), (1, .int x1), (2, .long 0), (4, .int 0)]) C [1, 2, 3, 0] dX9_mean_42 (by decide) rfl ?_
        refine jX9_mean_L44 C rfl x1 _ (fun t5 => ?_) dk_FU 0 0 r1.2
        · refine dj_aload_n C 0 rfl dX9_mean_72 ?_
          refine dj_lload_n C 2 rfl dX9_mean_73 ?_
          refine dj_aload_n C 0 rfl dX9_mean_74 ?_
          refine dj_getr (r := 2) (k2 := 84) C dl_X9_13 rfl dz_82 rfl dX9_mean_75 ?_
          refine dj_iload_n C 1 rfl dX9_mean_78 ?_
          refine dj_iald (n := 6) C dz_84 (by decide) dX9_mean_79 ?_
          refine dj_i2l C dX9_mean_80 ?_
          refine dj_ldivg C dX9_mean_81 ?_
          refine dj_l2i C dX9_mean_82 ?_
          refine dj_iconst C dX9_mean_83 dc_iconst_1 ?_
          refine dj_callVi (t := 9) (As := [.int ((t5.1 / ((t5.2.1 84 x1.toNatClampNeg).toInt64)).toInt32), .int 1]) C dw_X9_102 ⟨_, _, rfl⟩ (by decide) dz_82 (ct_X9_tells l g ((t5.1 / ((t5.2.1 84 x1.toNatClampNeg).toInt64)).toInt32) 1 t5.2) ⟨Nat.le_of_ble_eq_true rfl, Nat.le_of_ble_eq_true rfl⟩ rfl (Nat.le_of_ble_eq_true rfl) rfl dX9_mean_84 (fun r6 => ?_)
          exact dj_iret C dX9_mean_87
      · refine dj_aload_n C 0 rfl dX9_mean_33 ?_
        refine dj_iconst C dX9_mean_34 dc_iconst_4 ?_
        refine dj_callVi (t := 9) (As := [.int 4]) C dw_X9_94 ⟨_, _, rfl⟩ (by decide) dz_82 (ct_X9_notes l g 4 r1.2) ⟨Nat.le_of_ble_eq_true rfl, Nat.le_of_ble_eq_true rfl⟩ rfl (Nat.le_of_ble_eq_true rfl) rfl dX9_mean_35 (fun r10 => ?_)
        exact dj_iret C dX9_mean_38
    · refine dj_aload_n C 0 rfl dX9_mean_18 ?_
      refine dj_iconst C dX9_mean_19 dc_iconst_1 ?_
      refine dj_callVi (t := 9) (As := [.int 1]) C dw_X9_94 ⟨_, _, rfl⟩ (by decide) dz_82 (ct_X9_notes l g 1 r1.2) ⟨Nat.le_of_ble_eq_true rfl, Nat.le_of_ble_eq_true rfl⟩ rfl (Nat.le_of_ble_eq_true rfl) rfl dX9_mean_20 (fun r11 => ?_)
      exact dj_iret C dX9_mean_23
  · refine dj_iconst C dX9_mean_7 dc_iconst_m1 ?_
    exact dj_iret C dX9_mean_8
