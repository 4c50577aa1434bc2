/-- a world that has grown: the cell k has changed, L came behind -/
def dk_ext (ws : va_W) (k : Nat) (e : Nat × va_E) (L : va_W) : va_W := ws.set k e ++ L
section dkx
variable {ws : va_W} {k : Nat} {e e0 e2 : Nat × va_E} {L L2 L3 : va_W}
theorem dx_lt (hk : ws[k]? = some e0) : k < ws.length := (List.getElem?_eq_some_iff.mp hk).1
theorem dx_zero (hk : ws[k]? = some e0) : ws = dk_ext ws k e0 [] := by
  unfold dk_ext
  rw [List.append_nil]
  apply List.ext_getElem?
  intro i
  by_cases hi : k = i
  · subst hi
    rw [List.getElem?_set_self (dx_lt hk), hk]
  · rw [List.getElem?_set_ne hi]
theorem dx_this (hk : ws[k]? = some e0) : (dk_ext ws k e L)[k]? = some e := by
  unfold dk_ext
  rw [List.getElem?_append_left (by rw [List.length_set]; exact dx_lt hk), List.getElem?_set_self (dx_lt hk)]
theorem dx_set (hk : ws[k]? = some e0) {e3 : Nat × va_E} (h : e2 = e3) : (dk_ext ws k e L).set k e2 = dk_ext ws k e3 L := by
  subst h
  unfold dk_ext
  rw [List.set_append_left _ _ (by rw [List.length_set]; exact dx_lt hk), List.set_set]
theorem dx_at {j : Nat} {x : Nat × va_E} (h : L[j]? = some x) : (dk_ext ws k e L)[ws.length + j]? = some x := by
  unfold dk_ext
  rw [List.getElem?_append_right (by rw [List.length_set]; omega), List.length_set, Nat.add_sub_cancel_left]
  exact h
theorem dx_seta {j : Nat} {x : Nat × va_E} (hj : j < L.length) (h : L.set j x = L2) : (dk_ext ws k e L).set (ws.length + j) x = dk_ext ws k e L2 := by
  unfold dk_ext
  rw [List.set_append_right _ _ (by rw [List.length_set]; omega), List.length_set, Nat.add_sub_cancel_left, h]
theorem dx_app (h : L ++ L2 = L3) : dk_ext ws k e L ++ L2 = dk_ext ws k e L3 := by
  unfold dk_ext
  rw [List.append_assoc, h]
theorem dx_sub {j : Nat} {x : Nat × va_E} (hj : j < L.length) (h : L.set j x ++ L2 = L3) : dk_ext (dk_ext ws k e L) (ws.length + j) x L2 = dk_ext ws k e L3 := by
  show (dk_ext ws k e L).set (ws.length + j) x ++ L2 = _
  rw [show (dk_ext ws k e L).set (ws.length + j) x = dk_ext ws k e (L.set j x) from dx_seta hj rfl]
  exact dx_app h
end dkx
theorem df_5_0 : dk_Ff "DuckWalk$Row" 5 0 (.array .int) := fun C T N h => by cases h; exact ⟨rfl, rfl, by decide +kernel⟩
theorem df_6_0 : dk_Ff "DuckWalk$Script" 6 0 (.array .byte) := fun C T N h => by cases h; exact ⟨rfl, rfl, by decide +kernel⟩
theorem df_1_0 : dk_Ff "DuckWalk$Duck" 1 0 (.array .int) := fun C T N h => by cases h; exact ⟨rfl, rfl, by decide +kernel⟩
theorem df_3_0 : dk_Ff "DuckWalk$Plank" 3 0 (.array .int) := fun C T N h => by cases h; exact ⟨rfl, rfl, by decide +kernel⟩
theorem dnw_X0_9 : dk_Nw "DuckWalk$Course" 9 1 [.null, .int 0, .int 0] := ⟨RX1, TX1, 3, tyX1, rfl, rfl, dl_ws1, tyX1_ok, by decide +kernel, dk_m1 38 rfl rfl, dk_m1 39 rfl rfl, dk_m1 3 rfl rfl⟩
theorem dwi_X0_11 : dk_WI "DuckWalk$Course" 11 yX1_init cX1_init 1 := ⟨Or.inr ⟨_, List.mem_of_getElem? (i := 1) rfl⟩, dk_m1 41 rfl rfl, dk_m1 3 rfl rfl, dk_m1 42 rfl rfl, by decide, by decide, by decide +kernel, rfl⟩
theorem df_0_0 : dk_Ff "DuckWalk$Course" 0 0 (.object "DuckWalk$Duck") := fun C T N h => by cases h; exact ⟨rfl, rfl, by decide +kernel⟩
theorem dnw_X0_18 : dk_Nw "DuckWalk$Course" 18 3 [.null, .int 0, .int 0] := ⟨RX3, TX3, 3, tyX3, rfl, rfl, dl_ws3, tyX3_ok, by decide +kernel, dk_m1 62 rfl rfl, dk_m1 63 rfl rfl, dk_m1 4 rfl rfl⟩
theorem dwi_X0_20 : dk_WI "DuckWalk$Course" 20 yX3_init cX3_init 1 := ⟨Or.inr ⟨_, List.mem_of_getElem? (i := 2) rfl⟩, dk_m1 65 rfl rfl, dk_m1 4 rfl rfl, dk_m1 66 rfl rfl, by decide, by decide, by decide +kernel, rfl⟩
theorem df_0_1 : dk_Ff "DuckWalk$Course" 0 1 (.object "DuckWalk$Plank") := fun C T N h => by cases h; exact ⟨rfl, rfl, by decide +kernel⟩
theorem dnw_X4_9 : dk_Nw "DuckWalk$Reader" 9 1 [.null, .int 0, .int 0] := ⟨RX1, TX1, 3, tyX1, rfl, rfl, dl_ws1, tyX1_ok, by decide +kernel, dk_m1 139 rfl rfl, dk_m1 39 rfl rfl, dk_m1 3 rfl rfl⟩
theorem dwi_X4_11 : dk_WI "DuckWalk$Reader" 11 yX1_init cX1_init 1 := ⟨Or.inr ⟨_, List.mem_of_getElem? (i := 4) rfl⟩, dk_m1 41 rfl rfl, dk_m1 3 rfl rfl, dk_m1 42 rfl rfl, by decide, by decide, by decide +kernel, rfl⟩
theorem df_4_0 : dk_Ff "DuckWalk$Reader" 4 0 (.object "DuckWalk$Duck") := fun C T N h => by cases h; exact ⟨rfl, rfl, by decide +kernel⟩
theorem dnw_X4_18 : dk_Nw "DuckWalk$Reader" 18 3 [.null, .int 0, .int 0] := ⟨RX3, TX3, 3, tyX3, rfl, rfl, dl_ws3, tyX3_ok, by decide +kernel, dk_m1 141 rfl rfl, dk_m1 63 rfl rfl, dk_m1 4 rfl rfl⟩
theorem dwi_X4_20 : dk_WI "DuckWalk$Reader" 20 yX3_init cX3_init 1 := ⟨Or.inr ⟨_, List.mem_of_getElem? (i := 5) rfl⟩, dk_m1 65 rfl rfl, dk_m1 4 rfl rfl, dk_m1 66 rfl rfl, by decide, by decide, by decide +kernel, rfl⟩
theorem df_4_1 : dk_Ff "DuckWalk$Reader" 4 1 (.object "DuckWalk$Plank") := fun C T N h => by cases h; exact ⟨rfl, rfl, by decide +kernel⟩
theorem dnw_X7_9 : dk_Nw "DuckWalk$Trial" 9 0 [.null, .null, .int 0, .int 0, .int 0, .int 0, .int 0, .int 0, .int 0, .int 0] := ⟨RX0, TX0, 10, tyX0, rfl, rfl, dl_ws0, tyX0_ok, by decide +kernel, dk_m1 165 rfl rfl, dk_m1 33 rfl rfl, dk_m1 2 rfl rfl⟩
theorem dwi_X7_11 : dk_WI "DuckWalk$Trial" 11 yX0_init cX0_init 1 := ⟨Or.inr ⟨_, List.mem_of_getElem? (i := 7) rfl⟩, dk_m1 35 rfl rfl, dk_m1 2 rfl rfl, dk_m1 36 rfl rfl, by decide, by decide, by decide +kernel, rfl⟩
theorem df_7_0 : dk_Ff "DuckWalk$Trial" 7 0 (.object "DuckWalk$Course") := fun C T N h => by cases h; exact ⟨rfl, rfl, by decide +kernel⟩
theorem df_7_5 : dk_Ff "DuckWalk$Trial" 7 5 (.array .int) := fun C T N h => by cases h; exact ⟨rfl, rfl, by decide +kernel⟩
theorem df_7_6 : dk_Ff "DuckWalk$Trial" 7 6 (.array .long) := fun C T N h => by cases h; exact ⟨rfl, rfl, by decide +kernel⟩
set_option maxRecDepth 100000 in
set_option maxHeartbeats 8000000 in
theorem ci_X5 (l : Launch) (D : va_G) (cA : Nat → ClassId) (b0 : Nat) (ws : va_W) (k h0 : Nat) (hk : ws[k]? = some (h0, .inr (5, [.null, .int 0]))) : dk_MC (τ := Nat → Nat) l D cA b0 yX5_init cX5_init 1 1 12 1 60 h0 ws (fun x => dk_ext ws k (h0, .inr (5, [.ref (x 0), .int (-1)])) [(x 0, .inl (cA 0, 60, .inl (fun _ => 0)))]) := by
  refine dk_enterC "DuckWalk$Row" (by decide +kernel) rfl rfl (by decide) ?_
  intro p e s m args below meth c C hr hin
  refine dq_ws (ws2 := dk_ext ws k (h0, .inr (5, [.null, .int 0])) []) (dx_zero hk) ?_
  refine dq_aload_n C 0 rfl dX5_init_0 ?_
  refine dq_objInit C (dk_m1 224 rfl rfl) (Nat.le_of_ble_eq_true rfl) (Nat.le_of_ble_eq_true rfl) dX5_init_1 ?_
  refine dq_aload_n C 0 rfl dX5_init_4 ?_
  refine dq_bipush C dX5_init_5 dc_bipush_60 ?_
  refine dq_newa (atype := .int) (ty := .int) (t0 := 0) (N' := 60) (a0 := (60, .inl (fun _ => 0))) (nc2 := 1) (ns2 := 60) C (dk_m1 61 rfl rfl) rfl rfl (fun _ => rfl) (by decide) (by decide) (Nat.le_of_ble_eq_true rfl) (Nat.le_of_ble_eq_true rfl) (Nat.le_of_ble_eq_true rfl) rfl rfl dX5_init_7 (fun q1 => ?_)
  refine dq_ws (ws2 := dk_ext ws k (h0, .inr (5, [.null, .int 0])) [(q1, .inl (cA 0, 60, .inl (fun _ => 0)))]) (dx_app rfl) ?_
  refine dq_putF (ty := (.array .int)) (ws2 := dk_ext ws k (h0, .inr (5, [.ref q1, .int 0])) [(q1, .inl (cA 0, 60, .inl (fun _ => 0)))]) C hin dl_X5_9 df_5_0 rfl rfl (dx_this hk) (Nat.le_of_ble_eq_true rfl) (dx_set hk rfl) dX5_init_9 ?_
  refine dq_aload_n C 0 rfl dX5_init_12 ?_
  refine dq_iconst C dX5_init_13 dc_iconst_m1 ?_
  refine dq_put (ty := .int) (ws2 := dk_ext ws k (h0, .inr (5, [.ref q1, .int (-1)])) [(q1, .inl (cA 0, 60, .inl (fun _ => 0)))]) C dl_X5_15 dp_5_1 rfl rfl (dx_this hk) (Nat.le_of_ble_eq_true rfl) (dx_set hk rfl) dX5_init_14 ?_
  exact dq_vret C hr (fun i => [q1].getD i 0) rfl dX5_init_17
set_option maxRecDepth 100000 in
set_option maxHeartbeats 8000000 in
theorem ci_X6 (l : Launch) (D : va_G) (cA : Nat → ClassId) (b0 : Nat) (ws : va_W) (k h0 : Nat) (hk : ws[k]? = some (h0, .inr (6, [.null, .int 0]))) : dk_MC (τ := Nat → Nat) l D cA b0 yX6_init cX6_init 1 1 12 1 80 h0 ws (fun x => dk_ext ws k (h0, .inr (6, [.ref (x 0), .int (-1)])) [(x 0, .inl (cA 1, 80, .inl (fun _ => 0)))]) := by
  refine dk_enterC "DuckWalk$Script" (by decide +kernel) rfl rfl (by decide) ?_
  intro p e s m args below meth c C hr hin
  refine dq_ws (ws2 := dk_ext ws k (h0, .inr (6, [.null, .int 0])) []) (dx_zero hk) ?_
  refine dq_aload_n C 0 rfl dX6_init_0 ?_
  refine dq_objInit C (dk_m2 0 rfl rfl) (Nat.le_of_ble_eq_true rfl) (Nat.le_of_ble_eq_true rfl) dX6_init_1 ?_
  refine dq_aload_n C 0 rfl dX6_init_4 ?_
  refine dq_bipush C dX6_init_5 dc_bipush_80 ?_
  refine dq_newa (atype := .byte) (ty := .byte) (t0 := 1) (N' := 80) (a0 := (80, .inl (fun _ => 0))) (nc2 := 1) (ns2 := 80) C (dk_m2 10 rfl rfl) rfl rfl (fun _ => rfl) (by decide) (by decide) (Nat.le_of_ble_eq_true rfl) (Nat.le_of_ble_eq_true rfl) (Nat.le_of_ble_eq_true rfl) rfl rfl dX6_init_7 (fun q1 => ?_)
  refine dq_ws (ws2 := dk_ext ws k (h0, .inr (6, [.null, .int 0])) [(q1, .inl (cA 1, 80, .inl (fun _ => 0)))]) (dx_app rfl) ?_
  refine dq_putF (ty := (.array .byte)) (ws2 := dk_ext ws k (h0, .inr (6, [.ref q1, .int 0])) [(q1, .inl (cA 1, 80, .inl (fun _ => 0)))]) C hin dl_X6_9 df_6_0 rfl rfl (dx_this hk) (Nat.le_of_ble_eq_true rfl) (dx_set hk rfl) dX6_init_9 ?_
  refine dq_aload_n C 0 rfl dX6_init_12 ?_
  refine dq_iconst C dX6_init_13 dc_iconst_m1 ?_
  refine dq_put (ty := .int) (ws2 := dk_ext ws k (h0, .inr (6, [.ref q1, .int (-1)])) [(q1, .inl (cA 1, 80, .inl (fun _ => 0)))]) C dl_X6_15 dp_6_1 rfl rfl (dx_this hk) (Nat.le_of_ble_eq_true rfl) (dx_set hk rfl) dX6_init_14 ?_
  exact dq_vret C hr (fun i => [q1].getD i 0) rfl dX6_init_17
set_option maxRecDepth 100000 in
set_option maxHeartbeats 8000000 in
theorem ci_X1 (l : Launch) (D : va_G) (cA : Nat → ClassId) (b0 : Nat) (ws : va_W) (k h0 : Nat) (hk : ws[k]? = some (h0, .inr (1, [.null, .int 0, .int 0]))) : dk_MC (τ := Nat → Nat) l D cA b0 yX1_init cX1_init 1 1 12 1 6 h0 ws (fun x => dk_ext ws k (h0, .inr (1, [.ref (x 0), .int 0, .int 0])) [(x 0, .inl (cA 0, 6, .inl (fun _ => 0)))]) := by
  refine dk_enterC "DuckWalk$Duck" (by decide +kernel) rfl rfl (by decide) ?_
  intro p e s m args below meth c C hr hin
  refine dq_ws (ws2 := dk_ext ws k (h0, .inr (1, [.null, .int 0, .int 0])) []) (dx_zero hk) ?_
  refine dq_aload_n C 0 rfl dX1_init_0 ?_
  refine dq_objInit C (dk_m1 43 rfl rfl) (Nat.le_of_ble_eq_true rfl) (Nat.le_of_ble_eq_true rfl) dX1_init_1 ?_
  refine dq_aload_n C 0 rfl dX1_init_4 ?_
  refine dq_bipush C dX1_init_5 dc_bipush_6 ?_
  refine dq_newa (atype := .int) (ty := .int) (t0 := 0) (N' := 6) (a0 := (6, .inl (fun _ => 0))) (nc2 := 1) (ns2 := 6) C (dk_m1 61 rfl rfl) rfl rfl (fun _ => rfl) (by decide) (by decide) (Nat.le_of_ble_eq_true rfl) (Nat.le_of_ble_eq_true rfl) (Nat.le_of_ble_eq_true rfl) rfl rfl dX1_init_7 (fun q1 => ?_)
  refine dq_ws (ws2 := dk_ext ws k (h0, .inr (1, [.null, .int 0, .int 0])) [(q1, .inl (cA 0, 6, .inl (fun _ => 0)))]) (dx_app rfl) ?_
  refine dq_putF (ty := (.array .int)) (ws2 := dk_ext ws k (h0, .inr (1, [.ref q1, .int 0, .int 0])) [(q1, .inl (cA 0, 6, .inl (fun _ => 0)))]) C hin dl_X1_9 df_1_0 rfl rfl (dx_this hk) (Nat.le_of_ble_eq_true rfl) (dx_set hk rfl) dX1_init_9 ?_
  refine dq_aload_n C 0 rfl dX1_init_12 ?_
  refine dq_iconst C dX1_init_13 dc_iconst_0 ?_
  refine dq_put (ty := .int) (ws2 := dk_ext ws k (h0, .inr (1, [.ref q1, .int 0, .int 0])) [(q1, .inl (cA 0, 6, .inl (fun _ => 0)))]) C dl_X1_15 dp_1_1 rfl rfl (dx_this hk) (Nat.le_of_ble_eq_true rfl) (dx_set hk rfl) dX1_init_14 ?_
  refine dq_aload_n C 0 rfl dX1_init_17 ?_
  refine dq_iconst C dX1_init_18 dc_iconst_0 ?_
  refine dq_put (ty := .boolean) (ws2 := dk_ext ws k (h0, .inr (1, [.ref q1, .int 0, .int 0])) [(q1, .inl (cA 0, 6, .inl (fun _ => 0)))]) C dl_X1_19 dp_1_2 rfl rfl (dx_this hk) (Nat.le_of_ble_eq_true rfl) (dx_set hk rfl) dX1_init_19 ?_
  exact dq_vret C hr (fun i => [q1].getD i 0) rfl dX1_init_22
set_option maxRecDepth 100000 in
set_option maxHeartbeats 8000000 in
theorem ci_X3 (l : Launch) (D : va_G) (cA : Nat → ClassId) (b0 : Nat) (ws : va_W) (k h0 : Nat) (hk : ws[k]? = some (h0, .inr (3, [.null, .int 0, .int 0]))) : dk_MC (τ := Nat → Nat) l D cA b0 yX3_init cX3_init 1 1 12 1 100 h0 ws (fun x => dk_ext ws k (h0, .inr (3, [.ref (x 0), .int 1, .int 0])) [(x 0, .inl (cA 0, 100, .inl (fun _ => 0)))]) := by
  refine dk_enterC "DuckWalk$Plank" (by decide +kernel) rfl rfl (by decide) ?_
  intro p e s m args below meth c C hr hin
  refine dq_ws (ws2 := dk_ext ws k (h0, .inr (3, [.null, .int 0, .int 0])) []) (dx_zero hk) ?_
  refine dq_aload_n C 0 rfl dX3_init_0 ?_
  refine dq_objInit C (dk_m1 67 rfl rfl) (Nat.le_of_ble_eq_true rfl) (Nat.le_of_ble_eq_true rfl) dX3_init_1 ?_
  refine dq_aload_n C 0 rfl dX3_init_4 ?_
  refine dq_bipush C dX3_init_5 dc_bipush_100 ?_
  refine dq_newa (atype := .int) (ty := .int) (t0 := 0) (N' := 100) (a0 := (100, .inl (fun _ => 0))) (nc2 := 1) (ns2 := 100) C (dk_m1 61 rfl rfl) rfl rfl (fun _ => rfl) (by decide) (by decide) (Nat.le_of_ble_eq_true rfl) (Nat.le_of_ble_eq_true rfl) (Nat.le_of_ble_eq_true rfl) rfl rfl dX3_init_7 (fun q1 => ?_)
  refine dq_ws (ws2 := dk_ext ws k (h0, .inr (3, [.null, .int 0, .int 0])) [(q1, .inl (cA 0, 100, .inl (fun _ => 0)))]) (dx_app rfl) ?_
  refine dq_putF (ty := (.array .int)) (ws2 := dk_ext ws k (h0, .inr (3, [.ref q1, .int 0, .int 0])) [(q1, .inl (cA 0, 100, .inl (fun _ => 0)))]) C hin dl_X3_9 df_3_0 rfl rfl (dx_this hk) (Nat.le_of_ble_eq_true rfl) (dx_set hk rfl) dX3_init_9 ?_
  refine dq_aload_n C 0 rfl dX3_init_12 ?_
  refine dq_iconst C dX3_init_13 dc_iconst_1 ?_
  refine dq_put (ty := .int) (ws2 := dk_ext ws k (h0, .inr (3, [.ref q1, .int 1, .int 0])) [(q1, .inl (cA 0, 100, .inl (fun _ => 0)))]) C dl_X3_15 dp_3_1 rfl rfl (dx_this hk) (Nat.le_of_ble_eq_true rfl) (dx_set hk rfl) dX3_init_14 ?_
  refine dq_aload_n C 0 rfl dX3_init_17 ?_
  refine dq_iconst C dX3_init_18 dc_iconst_0 ?_
  refine dq_put (ty := .boolean) (ws2 := dk_ext ws k (h0, .inr (3, [.ref q1, .int 1, .int 0])) [(q1, .inl (cA 0, 100, .inl (fun _ => 0)))]) C dl_X3_19 dp_3_2 rfl rfl (dx_this hk) (Nat.le_of_ble_eq_true rfl) (dx_set hk rfl) dX3_init_19 ?_
  exact dq_vret C hr (fun i => [q1].getD i 0) rfl dX3_init_22
set_option maxRecDepth 100000 in
set_option maxHeartbeats 8000000 in
theorem ci_X2 (l : Launch) (D : va_G) (cA : Nat → ClassId) (b0 : Nat) (ws : va_W) (k h0 : Nat) (hk : ws[k]? = some (h0, .inr (2, [.int 0, .int 0, .int 0, .int 0]))) : dk_MC (τ := Nat → Nat) l D cA b0 yX2_init cX2_init 1 1 12 0 0 h0 ws (fun x => dk_ext ws k (h0, .inr (2, [.int 0, .int 0, .int 0, .int 0])) []) := by
  refine dk_enterC "DuckWalk$Guess" (by decide +kernel) rfl rfl (by decide) ?_
  intro p e s m args below meth c C hr hin
  refine dq_ws (ws2 := dk_ext ws k (h0, .inr (2, [.int 0, .int 0, .int 0, .int 0])) []) (dx_zero hk) ?_
  refine dq_aload_n C 0 rfl dX2_init_0 ?_
  refine dq_objInit C (dk_m1 202 rfl rfl) (Nat.le_of_ble_eq_true rfl) (Nat.le_of_ble_eq_true rfl) dX2_init_1 ?_
  refine dq_aload_n C 0 rfl dX2_init_4 ?_
  refine dq_iconst C dX2_init_5 dc_iconst_0 ?_
  refine dq_put (ty := .int) (ws2 := dk_ext ws k (h0, .inr (2, [.int 0, .int 0, .int 0, .int 0])) []) C dl_X2_9 dp_2_0 rfl rfl (dx_this hk) (Nat.le_of_ble_eq_true rfl) (dx_set hk rfl) dX2_init_6 ?_
  refine dq_aload_n C 0 rfl dX2_init_9 ?_
  refine dq_iconst C dX2_init_10 dc_iconst_0 ?_
  refine dq_put (ty := .int) (ws2 := dk_ext ws k (h0, .inr (2, [.int 0, .int 0, .int 0, .int 0])) []) C dl_X2_15 dp_2_1 rfl rfl (dx_this hk) (Nat.le_of_ble_eq_true rfl) (dx_set hk rfl) dX2_init_11 ?_
  refine dq_aload_n C 0 rfl dX2_init_14 ?_
  refine dq_iconst C dX2_init_15 dc_iconst_0 ?_
  refine dq_put (ty := .int) (ws2 := dk_ext ws k (h0, .inr (2, [.int 0, .int 0, .int 0, .int 0])) []) C dl_X2_18 dp_2_2 rfl rfl (dx_this hk) (Nat.le_of_ble_eq_true rfl) (dx_set hk rfl) dX2_init_16 ?_
  refine dq_aload_n C 0 rfl dX2_init_19 ?_
  refine dq_iconst C dX2_init_20 dc_iconst_0 ?_
  refine dq_put (ty := .int) (ws2 := dk_ext ws k (h0, .inr (2, [.int 0, .int 0, .int 0, .int 0])) []) C dl_X2_21 dp_2_3 rfl rfl (dx_this hk) (Nat.le_of_ble_eq_true rfl) (dx_set hk rfl) dX2_init_21 ?_
  exact dq_vret C hr (fun i => 0) rfl dX2_init_24
set_option maxRecDepth 100000 in
set_option maxHeartbeats 8000000 in
theorem ci_X0 (l : Launch) (D : va_G) (cA : Nat → ClassId) (b0 : Nat) (ws : va_W) (k h0 : Nat) (hk : ws[k]? = some (h0, .inr (0, [.null, .null, .int 0, .int 0, .int 0, .int 0, .int 0, .int 0, .int 0, .int 0]))) : dk_MC (τ := Nat → Nat) l D cA b0 yX0_init cX0_init 1 2 32 4 112 h0 ws (fun x => dk_ext ws k (h0, .inr (0, [.ref (x 0), .ref (x 2), .int 0, .int 0, .int 0, .int 0, .int 0, .int 0, .int 0, .int 0])) [(x 0, .inr (1, [.ref (x 1), .int 0, .int 0])), (x 1, .inl (cA 0, 6, .inl (fun _ => 0))), (x 2, .inr (3, [.ref (x 3), .int 1, .int 0])), (x 3, .inl (cA 0, 100, .inl (fun _ => 0)))]) := by
  refine dk_enterC "DuckWalk$Course" (by decide +kernel) rfl rfl (by decide) ?_
  intro p e s m args below meth c C hr hin
  refine dq_ws (ws2 := dk_ext ws k (h0, .inr (0, [.null, .null, .int 0, .int 0, .int 0, .int 0, .int 0, .int 0, .int 0, .int 0])) []) (dx_zero hk) ?_
  refine dq_aload_n C 0 rfl dX0_init_0 ?_
  refine dq_objInit C (dk_m1 37 rfl rfl) (Nat.le_of_ble_eq_true rfl) (Nat.le_of_ble_eq_true rfl) dX0_init_1 ?_
  refine dq_aload_n C 0 rfl dX0_init_4 ?_
  refine dq_new (nc2 := 1) (ns2 := 3) C dnw_X0_9 (Nat.le_of_ble_eq_true rfl) (Nat.le_of_ble_eq_true rfl) rfl rfl dX0_init_5 (fun q1 => ?_)
  refine dq_ws (ws2 := dk_ext ws k (h0, .inr (0, [.null, .null, .int 0, .int 0, .int 0, .int 0, .int 0, .int 0, .int 0, .int 0])) [(q1, .inr (1, [.null, .int 0, .int 0]))]) (dx_app rfl) ?_
  refine dq_dup C dX0_init_8 rfl ?_
  refine dq_init (nc2 := 2) (ns2 := 9) C dwi_X0_11 (ci_X1 l D cA b0 _ (ws.length + 0) q1 (dx_at rfl)) ⟨Nat.le_of_ble_eq_true rfl, Nat.le_of_ble_eq_true rfl⟩ (Nat.le_of_ble_eq_true rfl) (Nat.le_of_ble_eq_true rfl) rfl rfl (Nat.le_of_ble_eq_true rfl) dX0_init_9 (fun x2 => ?_)
  refine dq_ws (ws2 := dk_ext ws k (h0, .inr (0, [.null, .null, .int 0, .int 0, .int 0, .int 0, .int 0, .int 0, .int 0, .int 0])) [(q1, .inr (1, [.ref (x2 0), .int 0, .int 0])), (x2 0, .inl (cA 0, 6, .inl (fun _ => 0)))]) (dx_sub (Nat.le_of_ble_eq_true rfl) rfl) ?_
  refine dq_putF (ty := (.object "DuckWalk$Duck")) (ws2 := dk_ext ws k (h0, .inr (0, [.ref q1, .null, .int 0, .int 0, .int 0, .int 0, .int 0, .int 0, .int 0, .int 0])) [(q1, .inr (1, [.ref (x2 0), .int 0, .int 0])), (x2 0, .inl (cA 0, 6, .inl (fun _ => 0)))]) C hin dl_X0_12 df_0_0 rfl rfl (dx_this hk) (Nat.le_of_ble_eq_true rfl) (dx_set hk rfl) dX0_init_12 ?_
  refine dq_aload_n C 0 rfl dX0_init_15 ?_
  refine dq_new (nc2 := 3) (ns2 := 12) C dnw_X0_18 (Nat.le_of_ble_eq_true rfl) (Nat.le_of_ble_eq_true rfl) rfl rfl dX0_init_16 (fun q3 => ?_)
  refine dq_ws (ws2 := dk_ext ws k (h0, .inr (0, [.ref q1, .null, .int 0, .int 0, .int 0, .int 0, .int 0, .int 0, .int 0, .int 0])) [(q1, .inr (1, [.ref (x2 0), .int 0, .int 0])), (x2 0, .inl (cA 0, 6, .inl (fun _ => 0))), (q3, .inr (3, [.null, .int 0, .int 0]))]) (dx_app rfl) ?_
  refine dq_dup C dX0_init_19 rfl ?_
  refine dq_init (nc2 := 4) (ns2 := 112) C dwi_X0_20 (ci_X3 l D cA b0 _ (ws.length + 2) q3 (dx_at rfl)) ⟨Nat.le_of_ble_eq_true rfl, Nat.le_of_ble_eq_true rfl⟩ (Nat.le_of_ble_eq_true rfl) (Nat.le_of_ble_eq_true rfl) rfl rfl (Nat.le_of_ble_eq_true rfl) dX0_init_20 (fun x4 => ?_)
  refine dq_ws (ws2 := dk_ext ws k (h0, .inr (0, [.ref q1, .null, .int 0, .int 0, .int 0, .int 0, .int 0, .int 0, .int 0, .int 0])) [(q1, .inr (1, [.ref (x2 0), .int 0, .int 0])), (x2 0, .inl (cA 0, 6, .inl (fun _ => 0))), (q3, .inr (3, [.ref (x4 0), .int 1, .int 0])), (x4 0, .inl (cA 0, 100, .inl (fun _ => 0)))]) (dx_sub (Nat.le_of_ble_eq_true rfl) rfl) ?_
  refine dq_putF (ty := (.object "DuckWalk$Plank")) (ws2 := dk_ext ws k (h0, .inr (0, [.ref q1, .ref q3, .int 0, .int 0, .int 0, .int 0, .int 0, .int 0, .int 0, .int 0])) [(q1, .inr (1, [.ref (x2 0), .int 0, .int 0])), (x2 0, .inl (cA 0, 6, .inl (fun _ => 0))), (q3, .inr (3, [.ref (x4 0), .int 1, .int 0])), (x4 0, .inl (cA 0, 100, .inl (fun _ => 0)))]) C hin dl_X0_21 df_0_1 rfl rfl (dx_this hk) (Nat.le_of_ble_eq_true rfl) (dx_set hk rfl) dX0_init_23 ?_
  refine dq_aload_n C 0 rfl dX0_init_26 ?_
  refine dq_iconst C dX0_init_27 dc_iconst_0 ?_
  refine dq_put (ty := .boolean) (ws2 := dk_ext ws k (h0, .inr (0, [.ref q1, .ref q3, .int 0, .int 0, .int 0, .int 0, .int 0, .int 0, .int 0, .int 0])) [(q1, .inr (1, [.ref (x2 0), .int 0, .int 0])), (x2 0, .inl (cA 0, 6, .inl (fun _ => 0))), (q3, .inr (3, [.ref (x4 0), .int 1, .int 0])), (x4 0, .inl (cA 0, 100, .inl (fun _ => 0)))]) C dl_X0_25 dp_0_2 rfl rfl (dx_this hk) (Nat.le_of_ble_eq_true rfl) (dx_set hk rfl) dX0_init_28 ?_
  refine dq_aload_n C 0 rfl dX0_init_31 ?_
  refine dq_iconst C dX0_init_32 dc_iconst_0 ?_
  refine dq_put (ty := .int) (ws2 := dk_ext ws k (h0, .inr (0, [.ref q1, .ref q3, .int 0, .int 0, .int 0, .int 0, .int 0, .int 0, .int 0, .int 0])) [(q1, .inr (1, [.ref (x2 0), .int 0, .int 0])), (x2 0, .inl (cA 0, 6, .inl (fun _ => 0))), (q3, .inr (3, [.ref (x4 0), .int 1, .int 0])), (x4 0, .inl (cA 0, 100, .inl (fun _ => 0)))]) C dl_X0_29 dp_0_3 rfl rfl (dx_this hk) (Nat.le_of_ble_eq_true rfl) (dx_set hk rfl) dX0_init_33 ?_
  refine dq_aload_n C 0 rfl dX0_init_36 ?_
  refine dq_iconst C dX0_init_37 dc_iconst_0 ?_
  refine dq_put (ty := .int) (ws2 := dk_ext ws k (h0, .inr (0, [.ref q1, .ref q3, .int 0, .int 0, .int 0, .int 0, .int 0, .int 0, .int 0, .int 0])) [(q1, .inr (1, [.ref (x2 0), .int 0, .int 0])), (x2 0, .inl (cA 0, 6, .inl (fun _ => 0))), (q3, .inr (3, [.ref (x4 0), .int 1, .int 0])), (x4 0, .inl (cA 0, 100, .inl (fun _ => 0)))]) C dl_X0_33 dp_0_4 rfl rfl (dx_this hk) (Nat.le_of_ble_eq_true rfl) (dx_set hk rfl) dX0_init_38 ?_
  refine dq_aload_n C 0 rfl dX0_init_41 ?_
  refine dq_iconst C dX0_init_42 dc_iconst_0 ?_
  refine dq_put (ty := .int) (ws2 := dk_ext ws k (h0, .inr (0, [.ref q1, .ref q3, .int 0, .int 0, .int 0, .int 0, .int 0, .int 0, .int 0, .int 0])) [(q1, .inr (1, [.ref (x2 0), .int 0, .int 0])), (x2 0, .inl (cA 0, 6, .inl (fun _ => 0))), (q3, .inr (3, [.ref (x4 0), .int 1, .int 0])), (x4 0, .inl (cA 0, 100, .inl (fun _ => 0)))]) C dl_X0_36 dp_0_5 rfl rfl (dx_this hk) (Nat.le_of_ble_eq_true rfl) (dx_set hk rfl) dX0_init_43 ?_
  refine dq_aload_n C 0 rfl dX0_init_46 ?_
  refine dq_iconst C dX0_init_47 dc_iconst_0 ?_
  refine dq_put (ty := .int) (ws2 := dk_ext ws k (h0, .inr (0, [.ref q1, .ref q3, .int 0, .int 0, .int 0, .int 0, .int 0, .int 0, .int 0, .int 0])) [(q1, .inr (1, [.ref (x2 0), .int 0, .int 0])), (x2 0, .inl (cA 0, 6, .inl (fun _ => 0))), (q3, .inr (3, [.ref (x4 0), .int 1, .int 0])), (x4 0, .inl (cA 0, 100, .inl (fun _ => 0)))]) C dl_X0_39 dp_0_6 rfl rfl (dx_this hk) (Nat.le_of_ble_eq_true rfl) (dx_set hk rfl) dX0_init_48 ?_
  refine dq_aload_n C 0 rfl dX0_init_51 ?_
  refine dq_iconst C dX0_init_52 dc_iconst_0 ?_
  refine dq_put (ty := .int) (ws2 := dk_ext ws k (h0, .inr (0, [.ref q1, .ref q3, .int 0, .int 0, .int 0, .int 0, .int 0, .int 0, .int 0, .int 0])) [(q1, .inr (1, [.ref (x2 0), .int 0, .int 0])), (x2 0, .inl (cA 0, 6, .inl (fun _ => 0))), (q3, .inr (3, [.ref (x4 0), .int 1, .int 0])), (x4 0, .inl (cA 0, 100, .inl (fun _ => 0)))]) C dl_X0_42 dp_0_7 rfl rfl (dx_this hk) (Nat.le_of_ble_eq_true rfl) (dx_set hk rfl) dX0_init_53 ?_
  refine dq_aload_n C 0 rfl dX0_init_56 ?_
  refine dq_iconst C dX0_init_57 dc_iconst_0 ?_
  refine dq_put (ty := .int) (ws2 := dk_ext ws k (h0, .inr (0, [.ref q1, .ref q3, .int 0, .int 0, .int 0, .int 0, .int 0, .int 0, .int 0, .int 0])) [(q1, .inr (1, [.ref (x2 0), .int 0, .int 0])), (x2 0, .inl (cA 0, 6, .inl (fun _ => 0))), (q3, .inr (3, [.ref (x4 0), .int 1, .int 0])), (x4 0, .inl (cA 0, 100, .inl (fun _ => 0)))]) C dl_X0_45 dp_0_8 rfl rfl (dx_this hk) (Nat.le_of_ble_eq_true rfl) (dx_set hk rfl) dX0_init_58 ?_
  refine dq_aload_n C 0 rfl dX0_init_61 ?_
  refine dq_iconst C dX0_init_62 dc_iconst_0 ?_
  refine dq_put (ty := .int) (ws2 := dk_ext ws k (h0, .inr (0, [.ref q1, .ref q3, .int 0, .int 0, .int 0, .int 0, .int 0, .int 0, .int 0, .int 0])) [(q1, .inr (1, [.ref (x2 0), .int 0, .int 0])), (x2 0, .inl (cA 0, 6, .inl (fun _ => 0))), (q3, .inr (3, [.ref (x4 0), .int 1, .int 0])), (x4 0, .inl (cA 0, 100, .inl (fun _ => 0)))]) C dl_X0_48 dp_0_9 rfl rfl (dx_this hk) (Nat.le_of_ble_eq_true rfl) (dx_set hk rfl) dX0_init_63 ?_
  exact dq_vret C hr (fun i => [q1, x2 0, q3, x4 0].getD i 0) rfl dX0_init_66
set_option maxRecDepth 100000 in
set_option maxHeartbeats 8000000 in
theorem ci_X4 (l : Launch) (D : va_G) (cA : Nat → ClassId) (b0 : Nat) (ws : va_W) (k h0 : Nat) (hk : ws[k]? = some (h0, .inr (4, [.null, .null, .int 0, .int 0]))) : dk_MC (τ := Nat → Nat) l D cA b0 yX4_init cX4_init 1 2 32 4 112 h0 ws (fun x => dk_ext ws k (h0, .inr (4, [.ref (x 0), .ref (x 2), .int 0, .int (-9)])) [(x 0, .inr (1, [.ref (x 1), .int 0, .int 0])), (x 1, .inl (cA 0, 6, .inl (fun _ => 0))), (x 2, .inr (3, [.ref (x 3), .int 1, .int 0])), (x 3, .inl (cA 0, 100, .inl (fun _ => 0)))]) := by
  refine dk_enterC "DuckWalk$Reader" (by decide +kernel) rfl rfl (by decide) ?_
  intro p e s m args below meth c C hr hin
  refine dq_ws (ws2 := dk_ext ws k (h0, .inr (4, [.null, .null, .int 0, .int 0])) []) (dx_zero hk) ?_
  refine dq_aload_n C 0 rfl dX4_init_0 ?_
  refine dq_objInit C (dk_m1 138 rfl rfl) (Nat.le_of_ble_eq_true rfl) (Nat.le_of_ble_eq_true rfl) dX4_init_1 ?_
  refine dq_aload_n C 0 rfl dX4_init_4 ?_
  refine dq_new (nc2 := 1) (ns2 := 3) C dnw_X4_9 (Nat.le_of_ble_eq_true rfl) (Nat.le_of_ble_eq_true rfl) rfl rfl dX4_init_5 (fun q1 => ?_)
  refine dq_ws (ws2 := dk_ext ws k (h0, .inr (4, [.null, .null, .int 0, .int 0])) [(q1, .inr (1, [.null, .int 0, .int 0]))]) (dx_app rfl) ?_
  refine dq_dup C dX4_init_8 rfl ?_
  refine dq_init (nc2 := 2) (ns2 := 9) C dwi_X4_11 (ci_X1 l D cA b0 _ (ws.length + 0) q1 (dx_at rfl)) ⟨Nat.le_of_ble_eq_true rfl, Nat.le_of_ble_eq_true rfl⟩ (Nat.le_of_ble_eq_true rfl) (Nat.le_of_ble_eq_true rfl) rfl rfl (Nat.le_of_ble_eq_true rfl) dX4_init_9 (fun x2 => ?_)
  refine dq_ws (ws2 := dk_ext ws k (h0, .inr (4, [.null, .null, .int 0, .int 0])) [(q1, .inr (1, [.ref (x2 0), .int 0, .int 0])), (x2 0, .inl (cA 0, 6, .inl (fun _ => 0)))]) (dx_sub (Nat.le_of_ble_eq_true rfl) rfl) ?_
  refine dq_putF (ty := (.object "DuckWalk$Duck")) (ws2 := dk_ext ws k (h0, .inr (4, [.ref q1, .null, .int 0, .int 0])) [(q1, .inr (1, [.ref (x2 0), .int 0, .int 0])), (x2 0, .inl (cA 0, 6, .inl (fun _ => 0)))]) C hin dl_X4_12 df_4_0 rfl rfl (dx_this hk) (Nat.le_of_ble_eq_true rfl) (dx_set hk rfl) dX4_init_12 ?_
  refine dq_aload_n C 0 rfl dX4_init_15 ?_
  refine dq_new (nc2 := 3) (ns2 := 12) C dnw_X4_18 (Nat.le_of_ble_eq_true rfl) (Nat.le_of_ble_eq_true rfl) rfl rfl dX4_init_16 (fun q3 => ?_)
  refine dq_ws (ws2 := dk_ext ws k (h0, .inr (4, [.ref q1, .null, .int 0, .int 0])) [(q1, .inr (1, [.ref (x2 0), .int 0, .int 0])), (x2 0, .inl (cA 0, 6, .inl (fun _ => 0))), (q3, .inr (3, [.null, .int 0, .int 0]))]) (dx_app rfl) ?_
  refine dq_dup C dX4_init_19 rfl ?_
  refine dq_init (nc2 := 4) (ns2 := 112) C dwi_X4_20 (ci_X3 l D cA b0 _ (ws.length + 2) q3 (dx_at rfl)) ⟨Nat.le_of_ble_eq_true rfl, Nat.le_of_ble_eq_true rfl⟩ (Nat.le_of_ble_eq_true rfl) (Nat.le_of_ble_eq_true rfl) rfl rfl (Nat.le_of_ble_eq_true rfl) dX4_init_20 (fun x4 => ?_)
  refine dq_ws (ws2 := dk_ext ws k (h0, .inr (4, [.ref q1, .null, .int 0, .int 0])) [(q1, .inr (1, [.ref (x2 0), .int 0, .int 0])), (x2 0, .inl (cA 0, 6, .inl (fun _ => 0))), (q3, .inr (3, [.ref (x4 0), .int 1, .int 0])), (x4 0, .inl (cA 0, 100, .inl (fun _ => 0)))]) (dx_sub (Nat.le_of_ble_eq_true rfl) rfl) ?_
  refine dq_putF (ty := (.object "DuckWalk$Plank")) (ws2 := dk_ext ws k (h0, .inr (4, [.ref q1, .ref q3, .int 0, .int 0])) [(q1, .inr (1, [.ref (x2 0), .int 0, .int 0])), (x2 0, .inl (cA 0, 6, .inl (fun _ => 0))), (q3, .inr (3, [.ref (x4 0), .int 1, .int 0])), (x4 0, .inl (cA 0, 100, .inl (fun _ => 0)))]) C hin dl_X4_21 df_4_1 rfl rfl (dx_this hk) (Nat.le_of_ble_eq_true rfl) (dx_set hk rfl) dX4_init_23 ?_
  refine dq_aload_n C 0 rfl dX4_init_26 ?_
  refine dq_iconst C dX4_init_27 dc_iconst_0 ?_
  refine dq_put (ty := .int) (ws2 := dk_ext ws k (h0, .inr (4, [.ref q1, .ref q3, .int 0, .int 0])) [(q1, .inr (1, [.ref (x2 0), .int 0, .int 0])), (x2 0, .inl (cA 0, 6, .inl (fun _ => 0))), (q3, .inr (3, [.ref (x4 0), .int 1, .int 0])), (x4 0, .inl (cA 0, 100, .inl (fun _ => 0)))]) C dl_X4_25 dp_4_2 rfl rfl (dx_this hk) (Nat.le_of_ble_eq_true rfl) (dx_set hk rfl) dX4_init_28 ?_
  refine dq_aload_n C 0 rfl dX4_init_31 ?_
  refine dq_bipush C dX4_init_32 dc_bipush_m9 ?_
  refine dq_put (ty := .int) (ws2 := dk_ext ws k (h0, .inr (4, [.ref q1, .ref q3, .int 0, .int (-9)])) [(q1, .inr (1, [.ref (x2 0), .int 0, .int 0])), (x2 0, .inl (cA 0, 6, .inl (fun _ => 0))), (q3, .inr (3, [.ref (x4 0), .int 1, .int 0])), (x4 0, .inl (cA 0, 100, .inl (fun _ => 0)))]) C dl_X4_29 dp_4_3 rfl rfl (dx_this hk) (Nat.le_of_ble_eq_true rfl) (dx_set hk rfl) dX4_init_34 ?_
  exact dq_vret C hr (fun i => [q1, x2 0, q3, x4 0].getD i 0) rfl dX4_init_37
set_option maxRecDepth 100000 in
set_option maxHeartbeats 8000000 in
theorem ci_X7 (l : Launch) (D : va_G) (cA : Nat → ClassId) (b0 : Nat) (ws : va_W) (k h0 : Nat) (hk : ws[k]? = some (h0, .inr (7, [.null, .int 0, .int 0, .int 0, .int 0, .null, .null, .long 0]))) : dk_MC (τ := Nat → Nat) l D cA b0 yX7_init cX7_init 1 3 52 7 723 h0 ws (fun x => dk_ext ws k (h0, .inr (7, [.ref (x 0), .int 0, .int 0, .int 0, .int 0, .ref (x 5), .ref (x 6), .long 0])) [(x 0, .inr (0, [.ref (x 1), .ref (x 3), .int 0, .int 0, .int 0, .int 0, .int 0, .int 0, .int 0, .int 0])), (x 1, .inr (1, [.ref (x 2), .int 0, .int 0])), (x 2, .inl (cA 0, 6, .inl (fun _ => 0))), (x 3, .inr (3, [.ref (x 4), .int 1, .int 0])), (x 4, .inl (cA 0, 100, .inl (fun _ => 0))), (x 5, .inl (cA 0, 401, .inl (fun _ => 0))), (x 6, .inl (cA 3, 200, .inr (.inl (fun _ => 0))))]) := by
  refine dk_enterC "DuckWalk$Trial" (by decide +kernel) rfl rfl (by decide) ?_
  intro p e s m args below meth c C hr hin
  refine dq_ws (ws2 := dk_ext ws k (h0, .inr (7, [.null, .int 0, .int 0, .int 0, .int 0, .null, .null, .long 0])) []) (dx_zero hk) ?_
  refine dq_aload_n C 0 rfl dX7_init_0 ?_
  refine dq_objInit C (dk_m1 164 rfl rfl) (Nat.le_of_ble_eq_true rfl) (Nat.le_of_ble_eq_true rfl) dX7_init_1 ?_
  refine dq_aload_n C 0 rfl dX7_init_4 ?_
  refine dq_new (nc2 := 1) (ns2 := 10) C dnw_X7_9 (Nat.le_of_ble_eq_true rfl) (Nat.le_of_ble_eq_true rfl) rfl rfl dX7_init_5 (fun q1 => ?_)
  refine dq_ws (ws2 := dk_ext ws k (h0, .inr (7, [.null, .int 0, .int 0, .int 0, .int 0, .null, .null, .long 0])) [(q1, .inr (0, [.null, .null, .int 0, .int 0, .int 0, .int 0, .int 0, .int 0, .int 0, .int 0]))]) (dx_app rfl) ?_
  refine dq_dup C dX7_init_8 rfl ?_
  refine dq_init (nc2 := 5) (ns2 := 122) C dwi_X7_11 (ci_X0 l D cA b0 _ (ws.length + 0) q1 (dx_at rfl)) ⟨Nat.le_of_ble_eq_true rfl, Nat.le_of_ble_eq_true rfl⟩ (Nat.le_of_ble_eq_true rfl) (Nat.le_of_ble_eq_true rfl) rfl rfl (Nat.le_of_ble_eq_true rfl) dX7_init_9 (fun x2 => ?_)
  refine dq_ws (ws2 := dk_ext ws k (h0, .inr (7, [.null, .int 0, .int 0, .int 0, .int 0, .null, .null, .long 0])) [(q1, .inr (0, [.ref (x2 0), .ref (x2 2), .int 0, .int 0, .int 0, .int 0, .int 0, .int 0, .int 0, .int 0])), (x2 0, .inr (1, [.ref (x2 1), .int 0, .int 0])), (x2 1, .inl (cA 0, 6, .inl (fun _ => 0))), (x2 2, .inr (3, [.ref (x2 3), .int 1, .int 0])), (x2 3, .inl (cA 0, 100, .inl (fun _ => 0)))]) (dx_sub (Nat.le_of_ble_eq_true rfl) rfl) ?_
  refine dq_putF (ty := (.object "DuckWalk$Course")) (ws2 := dk_ext ws k (h0, .inr (7, [.ref q1, .int 0, .int 0, .int 0, .int 0, .null, .null, .long 0])) [(q1, .inr (0, [.ref (x2 0), .ref (x2 2), .int 0, .int 0, .int 0, .int 0, .int 0, .int 0, .int 0, .int 0])), (x2 0, .inr (1, [.ref (x2 1), .int 0, .int 0])), (x2 1, .inl (cA 0, 6, .inl (fun _ => 0))), (x2 2, .inr (3, [.ref (x2 3), .int 1, .int 0])), (x2 3, .inl (cA 0, 100, .inl (fun _ => 0)))]) C hin dl_X7_12 df_7_0 rfl rfl (dx_this hk) (Nat.le_of_ble_eq_true rfl) (dx_set hk rfl) dX7_init_12 ?_
  refine dq_aload_n C 0 rfl dX7_init_15 ?_
  refine dq_iconst C dX7_init_16 dc_iconst_0 ?_
  refine dq_put (ty := .int) (ws2 := dk_ext ws k (h0, .inr (7, [.ref q1, .int 0, .int 0, .int 0, .int 0, .null, .null, .long 0])) [(q1, .inr (0, [.ref (x2 0), .ref (x2 2), .int 0, .int 0, .int 0, .int 0, .int 0, .int 0, .int 0, .int 0])), (x2 0, .inr (1, [.ref (x2 1), .int 0, .int 0])), (x2 1, .inl (cA 0, 6, .inl (fun _ => 0))), (x2 2, .inr (3, [.ref (x2 3), .int 1, .int 0])), (x2 3, .inl (cA 0, 100, .inl (fun _ => 0)))]) C dl_X7_18 dp_7_1 rfl rfl (dx_this hk) (Nat.le_of_ble_eq_true rfl) (dx_set hk rfl) dX7_init_17 ?_
  refine dq_aload_n C 0 rfl dX7_init_20 ?_
  refine dq_iconst C dX7_init_21 dc_iconst_0 ?_
  refine dq_put (ty := .int) (ws2 := dk_ext ws k (h0, .inr (7, [.ref q1, .int 0, .int 0, .int 0, .int 0, .null, .null, .long 0])) [(q1, .inr (0, [.ref (x2 0), .ref (x2 2), .int 0, .int 0, .int 0, .int 0, .int 0, .int 0, .int 0, .int 0])), (x2 0, .inr (1, [.ref (x2 1), .int 0, .int 0])), (x2 1, .inl (cA 0, 6, .inl (fun _ => 0))), (x2 2, .inr (3, [.ref (x2 3), .int 1, .int 0])), (x2 3, .inl (cA 0, 100, .inl (fun _ => 0)))]) C dl_X7_22 dp_7_2 rfl rfl (dx_this hk) (Nat.le_of_ble_eq_true rfl) (dx_set hk rfl) dX7_init_22 ?_
  refine dq_aload_n C 0 rfl dX7_init_25 ?_
  refine dq_iconst C dX7_init_26 dc_iconst_0 ?_
  refine dq_put (ty := .int) (ws2 := dk_ext ws k (h0, .inr (7, [.ref q1, .int 0, .int 0, .int 0, .int 0, .null, .null, .long 0])) [(q1, .inr (0, [.ref (x2 0), .ref (x2 2), .int 0, .int 0, .int 0, .int 0, .int 0, .int 0, .int 0, .int 0])), (x2 0, .inr (1, [.ref (x2 1), .int 0, .int 0])), (x2 1, .inl (cA 0, 6, .inl (fun _ => 0))), (x2 2, .inr (3, [.ref (x2 3), .int 1, .int 0])), (x2 3, .inl (cA 0, 100, .inl (fun _ => 0)))]) C dl_X7_25 dp_7_3 rfl rfl (dx_this hk) (Nat.le_of_ble_eq_true rfl) (dx_set hk rfl) dX7_init_27 ?_
  refine dq_aload_n C 0 rfl dX7_init_30 ?_
  refine dq_iconst C dX7_init_31 dc_iconst_0 ?_
  refine dq_put (ty := .int) (ws2 := dk_ext ws k (h0, .inr (7, [.ref q1, .int 0, .int 0, .int 0, .int 0, .null, .null, .long 0])) [(q1, .inr (0, [.ref (x2 0), .ref (x2 2), .int 0, .int 0, .int 0, .int 0, .int 0, .int 0, .int 0, .int 0])), (x2 0, .inr (1, [.ref (x2 1), .int 0, .int 0])), (x2 1, .inl (cA 0, 6, .inl (fun _ => 0))), (x2 2, .inr (3, [.ref (x2 3), .int 1, .int 0])), (x2 3, .inl (cA 0, 100, .inl (fun _ => 0)))]) C dl_X7_28 dp_7_4 rfl rfl (dx_this hk) (Nat.le_of_ble_eq_true rfl) (dx_set hk rfl) dX7_init_32 ?_
  refine dq_aload_n C 0 rfl dX7_init_35 ?_
  refine dq_sipush C dX7_init_36 dc_sipush_401 ?_
  refine dq_newa (atype := .int) (ty := .int) (t0 := 0) (N' := 401) (a0 := (401, .inl (fun _ => 0))) (nc2 := 6) (ns2 := 523) C (dk_m1 61 rfl rfl) rfl rfl (fun _ => rfl) (by decide) (by decide) (Nat.le_of_ble_eq_true rfl) (Nat.le_of_ble_eq_true rfl) (Nat.le_of_ble_eq_true rfl) rfl rfl dX7_init_39 (fun q3 => ?_)
  refine dq_ws (ws2 := dk_ext ws k (h0, .inr (7, [.ref q1, .int 0, .int 0, .int 0, .int 0, .null, .null, .long 0])) [(q1, .inr (0, [.ref (x2 0), .ref (x2 2), .int 0, .int 0, .int 0, .int 0, .int 0, .int 0, .int 0, .int 0])), (x2 0, .inr (1, [.ref (x2 1), .int 0, .int 0])), (x2 1, .inl (cA 0, 6, .inl (fun _ => 0))), (x2 2, .inr (3, [.ref (x2 3), .int 1, .int 0])), (x2 3, .inl (cA 0, 100, .inl (fun _ => 0))), (q3, .inl (cA 0, 401, .inl (fun _ => 0)))]) (dx_app rfl) ?_
  refine dq_putF (ty := (.array .int)) (ws2 := dk_ext ws k (h0, .inr (7, [.ref q1, .int 0, .int 0, .int 0, .int 0, .ref q3, .null, .long 0])) [(q1, .inr (0, [.ref (x2 0), .ref (x2 2), .int 0, .int 0, .int 0, .int 0, .int 0, .int 0, .int 0, .int 0])), (x2 0, .inr (1, [.ref (x2 1), .int 0, .int 0])), (x2 1, .inl (cA 0, 6, .inl (fun _ => 0))), (x2 2, .inr (3, [.ref (x2 3), .int 1, .int 0])), (x2 3, .inl (cA 0, 100, .inl (fun _ => 0))), (q3, .inl (cA 0, 401, .inl (fun _ => 0)))]) C hin dl_X7_31 df_7_5 rfl rfl (dx_this hk) (Nat.le_of_ble_eq_true rfl) (dx_set hk rfl) dX7_init_41 ?_
  refine dq_aload_n C 0 rfl dX7_init_44 ?_
  refine dq_sipush C dX7_init_45 dc_sipush_200 ?_
  refine dq_newa (atype := .long) (ty := .long) (t0 := 3) (N' := 200) (a0 := (200, .inr (.inl (fun _ => 0)))) (nc2 := 7) (ns2 := 723) C (dk_m1 196 rfl rfl) rfl rfl (fun _ => rfl) (by decide) (by decide) (Nat.le_of_ble_eq_true rfl) (Nat.le_of_ble_eq_true rfl) (Nat.le_of_ble_eq_true rfl) rfl rfl dX7_init_48 (fun q4 => ?_)
  refine dq_ws (ws2 := dk_ext ws k (h0, .inr (7, [.ref q1, .int 0, .int 0, .int 0, .int 0, .ref q3, .null, .long 0])) [(q1, .inr (0, [.ref (x2 0), .ref (x2 2), .int 0, .int 0, .int 0, .int 0, .int 0, .int 0, .int 0, .int 0])), (x2 0, .inr (1, [.ref (x2 1), .int 0, .int 0])), (x2 1, .inl (cA 0, 6, .inl (fun _ => 0))), (x2 2, .inr (3, [.ref (x2 3), .int 1, .int 0])), (x2 3, .inl (cA 0, 100, .inl (fun _ => 0))), (q3, .inl (cA 0, 401, .inl (fun _ => 0))), (q4, .inl (cA 3, 200, .inr (.inl (fun _ => 0))))]) (dx_app rfl) ?_
  refine dq_putF (ty := (.array .long)) (ws2 := dk_ext ws k (h0, .inr (7, [.ref q1, .int 0, .int 0, .int 0, .int 0, .ref q3, .ref q4, .long 0])) [(q1, .inr (0, [.ref (x2 0), .ref (x2 2), .int 0, .int 0, .int 0, .int 0, .int 0, .int 0, .int 0, .int 0])), (x2 0, .inr (1, [.ref (x2 1), .int 0, .int 0])), (x2 1, .inl (cA 0, 6, .inl (fun _ => 0))), (x2 2, .inr (3, [.ref (x2 3), .int 1, .int 0])), (x2 3, .inl (cA 0, 100, .inl (fun _ => 0))), (q3, .inl (cA 0, 401, .inl (fun _ => 0))), (q4, .inl (cA 3, 200, .inr (.inl (fun _ => 0))))]) C hin dl_X7_35 df_7_6 rfl rfl (dx_this hk) (Nat.le_of_ble_eq_true rfl) (dx_set hk rfl) dX7_init_50 ?_
  refine dq_aload_n C 0 rfl dX7_init_53 ?_
  refine dq_lconst (v := 0) C dX7_init_54 rfl ?_
  refine dq_put (ty := .long) (ws2 := dk_ext ws k (h0, .inr (7, [.ref q1, .int 0, .int 0, .int 0, .int 0, .ref q3, .ref q4, .long 0])) [(q1, .inr (0, [.ref (x2 0), .ref (x2 2), .int 0, .int 0, .int 0, .int 0, .int 0, .int 0, .int 0, .int 0])), (x2 0, .inr (1, [.ref (x2 1), .int 0, .int 0])), (x2 1, .inl (cA 0, 6, .inl (fun _ => 0))), (x2 2, .inr (3, [.ref (x2 3), .int 1, .int 0])), (x2 3, .inl (cA 0, 100, .inl (fun _ => 0))), (q3, .inl (cA 0, 401, .inl (fun _ => 0))), (q4, .inl (cA 3, 200, .inr (.inl (fun _ => 0))))]) C dl_X7_39 dp_7_7 rfl rfl (dx_this hk) (Nat.le_of_ble_eq_true rfl) (dx_set hk rfl) dX7_init_55 ?_
  exact dq_vret C hr (fun i => [q1, x2 0, x2 1, x2 2, x2 3, q3, q4].getD i 0) rfl dX7_init_58
