-- ===== end of PART A; then your names; then what follows =====
/-! THE CLAIM OUT OF ONE WALK OF THE LAW'S BODY. Your part is whole_start (and what it stands on); all else here is the same for every law, but numbers. -/
def R_law : String := "DuckWalkLaw"
def lw_P (b : Addr) (xs : List Int32) (args : Array Value) (s : State) : Prop := args = #[.ref b] ∧ s.IntsAt b xs ∧ xs.length ≤ 3072 ∧ (Jvm.Cond.and given_1 narrow_1).before args s = true
def lw_Q (_ : Array Value) (s : State) (o : Outcome) (t : State) : Prop := o = .returned (some (.int 1)) ∧ Framed s o t [] 600000 7302250
def lw_Z (below : List Frame) (a : Array Value) (s : State) : State → Prop := fun t => ∃ o, t.status = .running ∧ Ended t below o ∧ lw_Q a s o t
/-- the law's own end, with 1 on the stack, nothing written that was there before, its room as the claim has it -/
theorem lw_ret {p : Program} {l : Launch} {e : Env} {s : State} {m : MethodId} {below : List Frame} {meth : Method} {c : Code} {b : Nat} (hx : p.tables.exec = Jvm.exec) (hb : c.code = code) (hr : meth.sig.returnType = ret) (hlocks : meth.locks = false) {pc : Nat} {H : Heap} {ls : Array Slot} (hdg : decode code pc = .ok (.ireturn, 1)) : W p l e room_1 s m #[Value.ref b] below meth c H [] 600000 7302250 (lw_Z below #[Value.ref b] s) (F0 m pc ls [.int 1]) := by
  intro T hT X
  obtain ⟨fs, hret, hrun, hended, hW, hframe⟩ := X.leave (v := some (.int 1)) (hlocks := hlocks) (fun h => by rw [hr] at h; cases h)
  have hmeth' : T.vm.method? m = some meth := X.method'
  refine ⟨T.setFrames fs, ?_, .returned (some (.int 1)), hrun, hended, rfl, ⟨_, rfl⟩, hW, hframe⟩
  jvm_step X.here [X.here.top, hx, hb, hdg, hmeth', hr, ret, narrow_b1]
  (try refine ⟨rfl, ?_⟩); (try refine ⟨rfl, ?_⟩)
  first | (intro acts; rw [hret _ acts rfl rfl rfl]) | rw [hret _ _ rfl rfl rfl]
  exact Steps.refl _
/-- what holds at the law's entry: the machine, the code, the tables' words (any of lw_tbl by 'hts w (by decide +kernel)'), the script of L ints xs at the cell b, what the Statement gives of the start (any of its parts by flat_of_before) -/
def lw_At (p : Program) (s : State) (m : MethodId) (meth : Method) (c : Code) (b L : Nat) (xs : Nat → Int32) : Prop :=
  p.tables.exec = Jvm.exec ∧ c.code = code ∧ meth.sig.returnType = ret ∧ c.maxLocals = 4 ∧ s.vm.findClass R_law = some m.cls ∧ (∀ w ∈ lw_tbl, w.before #[Value.ref b] s = true) ∧ va_X b L xs s s.heap ∧ b < s.heap.size ∧ meth.locks = false ∧ (Jvm.Cond.and given_1 narrow_1).before #[Value.ref b] s = true

/-! THE LAW'S WALK -/
def dk_CL (p : Program) (s : State) (m : MethodId) (meth : Method) (c : Code) (g : dk_G) (b L : Nat) (xs : Nat → Int32) : Prop :=
  p.tables.exec = Jvm.exec ∧ c.code = code ∧ c.maxLocals = 4 ∧ s.vm.findClass "DuckWalkLaw" = some m.cls ∧ (∀ w ∈ dk_tb, w.before #[Value.ref b] s = true) ∧ meth.sig.returnType = ret ∧ meth.locks = false ∧ dk_inj g ∧ dk_N s ∧ va_K g.2.1 vwCl (dk_tys g) s ∧ va_X b L xs s s.heap ∧ b < s.heap.size ∧ (∀ k, k < 103 → s.heap.size ≤ g.1 k)
def dk_JL (p : Program) (l : Launch) (e : Env) (s : State) (m : MethodId) (below : List Frame) (meth : Method) (c : Code) (g : dk_G) (b : Nat) (pc : Nat) (lv : List (Nat × Value)) (st : List Value) (S : dk_S) : Prop :=
  ∀ (H : Heap) (locs : List Loc) (ls : Array Slot), va_P g.2.1 vwCl (dk_wd g S) H → va_S (fun q => s.heap.size ≤ q) s.heap H locs → lv_has ls 4 lv → W p l e room_1 s m #[Value.ref b] below meth c H locs 103 6066 (lw_Z below #[Value.ref b] s) (F0 m pc ls st)
section dkl
variable {p : Program} {l : Launch} {e : Env} {s : State} {m : MethodId} {below : List Frame} {meth : Method} {c : Code} {g : dk_G} {b L : Nat} {xs : Nat → Int32} {pc : Nat} {lv : List (Nat × Value)} {st : List Value} {S : dk_S}
theorem dg_iconst (C : dk_CL p s m meth c g b L xs) {n : Int} {v : Int32} (hd : decode code pc = .ok (.iconst n, 1)) (hv : Int32.ofInt n = v) (k : dk_JL p l e s m below meth c g b (pc + 1) lv (.int v :: st) S) : dk_JL p l e s m below meth c g b pc lv st S := fun H locs ls h1 h2 hl => lv_iconst C.1 C.2.1 hd hv (k H locs ls h1 h2 hl)
theorem dg_bipush (C : dk_CL p s m meth c g b L xs) {n : Int} {v : Int32} (hd : decode code pc = .ok (.bipush n, 2)) (hv : (Int8.ofInt n).toInt32 = v) (k : dk_JL p l e s m below meth c g b (pc + 2) lv (.int v :: st) S) : dk_JL p l e s m below meth c g b pc lv st S := fun H locs ls h1 h2 hl => lv_bipush C.1 C.2.1 hd hv (k H locs ls h1 h2 hl)
theorem dg_iload_n (C : dk_CL p s m meth c g b L xs) {k : Fin 4} {x : Int32} (q : Nat) (hq : lv[q]? = some ((k : Nat), .int x)) (hd : decode code pc = .ok (.iload_n k, 1)) (kk : dk_JL p l e s m below meth c g b (pc + 1) lv (.int x :: st) S) : dk_JL p l e s m below meth c g b pc lv st S := fun H locs ls h1 h2 hl => lv_iload_n C.1 C.2.1 hd rfl (lv_at hl q hq) (kk H locs ls h1 h2 hl)
theorem dg_aload_n (C : dk_CL p s m meth c g b L xs) {k : Fin 4} {x : Nat} (q : Nat) (hq : lv[q]? = some ((k : Nat), .ref x)) (hd : decode code pc = .ok (.aload_n k, 1)) (kk : dk_JL p l e s m below meth c g b (pc + 1) lv (.ref x :: st) S) : dk_JL p l e s m below meth c g b pc lv st S := fun H locs ls h1 h2 hl => lv_aload_n C.1 C.2.1 hd rfl (lv_at hl q hq) (kk H locs ls h1 h2 hl)
theorem dg_iadd (C : dk_CL p s m meth c g b L xs) {x y : Int32} (hd : decode code pc = .ok (.iadd, 1)) (k : dk_JL p l e s m below meth c g b (pc + 1) lv (.int (x + y) :: st) S) : dk_JL p l e s m below meth c g b pc lv (.int y :: .int x :: st) S := fun H locs ls h1 h2 hl => lv_iadd C.1 C.2.1 hd (k H locs ls h1 h2 hl)
theorem dg_isub (C : dk_CL p s m meth c g b L xs) {x y : Int32} (hd : decode code pc = .ok (.isub, 1)) (k : dk_JL p l e s m below meth c g b (pc + 1) lv (.int (x - y) :: st) S) : dk_JL p l e s m below meth c g b pc lv (.int y :: .int x :: st) S := fun H locs ls h1 h2 hl => lv_isub C.1 C.2.1 hd (k H locs ls h1 h2 hl)
theorem dg_iand (C : dk_CL p s m meth c g b L xs) {x y : Int32} (hd : decode code pc = .ok (.iand, 1)) (k : dk_JL p l e s m below meth c g b (pc + 1) lv (.int (x &&& y) :: st) S) : dk_JL p l e s m below meth c g b pc lv (.int y :: .int x :: st) S := fun H locs ls h1 h2 hl => lv_iand C.1 C.2.1 hd (k H locs ls h1 h2 hl)
theorem dg_iinc (C : dk_CL p s m meth c g b L xs) {i : Nat} {n : Int} {x w v : Int32} (q : Nat) (hq : lv[q]? = some (i, .int x)) (ks : List Nat) {lv2 : List (Nat × Value)} (hd : decode code pc = .ok (.iinc i n, 3)) (hw : Int32.ofInt n = w) (hv : x + w = v) (hn : i < 4) (hl2 : lv_pick ((i, Value.int v) :: lv.filter (fun q => !(q.1 == i) && !(q.1 + 1 == i && q.2.category == 2))) ks = lv2) (kk : dk_JL p l e s m below meth c g b (pc + 3) lv2 st S) : dk_JL p l e s m below meth c g b pc lv st S := fun H locs ls h1 h2 hl => lv_iinc C.1 C.2.1 hd hl hq (by rw [hw]; exact hv) hn rfl (fun ls2 g2 => kk H locs ls2 h1 h2 (lv_sub g2 ks hl2))
theorem dg_goto (C : dk_CL p s m meth c g b L xs) {off : Int} {tgt : Nat} (hd : decode code pc = .ok (.goto off, 3)) (ht : (pc : Int) + off = (tgt : Int)) (k : dk_JL p l e s m below meth c g b tgt lv st S) : dk_JL p l e s m below meth c g b pc lv st S := fun H locs ls h1 h2 hl => lv_goto C.1 C.2.1 hd ht (k H locs ls h1 h2 hl)
theorem dg_gt (C : dk_CL p s m meth c g b L xs) {x y : Int32} {off : Int} {tgt : Nat} (hd : decode code pc = .ok (.if_icmp .gt off, 3)) (ht : (pc : Int) + off = (tgt : Int)) (kt : y < x → dk_JL p l e s m below meth c g b tgt lv st S) (kf : ¬ y < x → dk_JL p l e s m below meth c g b (pc + 3) lv st S) : dk_JL p l e s m below meth c g b pc lv (.int y :: .int x :: st) S := fun H locs ls h1 h2 hl => lv_icmp_gt C.1 C.2.1 hd ht (fun h => kt h H locs ls h1 h2 hl) (fun h => kf h H locs ls h1 h2 hl)
theorem dg_eq (C : dk_CL p s m meth c g b L xs) {x : Int32} {off : Int} {tgt : Nat} (hd : decode code pc = .ok (.if_icmp .eq off, 3)) (ht : (pc : Int) + off = (tgt : Int)) (k : dk_JL p l e s m below meth c g b tgt lv st S) : dk_JL p l e s m below meth c g b pc lv (.int x :: .int x :: st) S := fun H locs ls h1 h2 hl => lv_icmp_eq C.1 C.2.1 hd ht (fun _ => k H locs ls h1 h2 hl) (fun h => absurd rfl h)
theorem dg_ifeq (C : dk_CL p s m meth c g b L xs) {x : Int32} {off : Int} {tgt : Nat} (hd : decode code pc = .ok (.ifCond .eq off, 3)) (ht : (pc : Int) + off = (tgt : Int)) (kt : x = 0 → dk_JL p l e s m below meth c g b tgt lv st S) (kf : ¬ x = 0 → dk_JL p l e s m below meth c g b (pc + 3) lv st S) : dk_JL p l e s m below meth c g b pc lv (.int x :: st) S := fun H locs ls h1 h2 hl => lv_if_eq C.1 C.2.1 hd ht (fun h => kt h H locs ls h1 h2 hl) (fun h => kf h H locs ls h1 h2 hl)
theorem dg_lcmp (C : dk_CL p s m meth c g b L xs) {x : Int64} (hd : decode code pc = .ok (.lcmp, 1)) (k : dk_JL p l e s m below meth c g b (pc + 1) lv (.int 0 :: st) S) : dk_JL p l e s m below meth c g b pc lv (.long x :: .long x :: st) S := fun H locs ls h1 h2 hl => W.lcmp C.1 C.2.1 hd (by
  have h0 : lg_cmp x x = 0 := by
    unfold lg_cmp
    rw [if_neg (by intro h; exact absurd h (by simp)), if_pos rfl]
  rw [h0]
  exact k H locs ls h1 h2 hl)
theorem dg_ifeq0 (C : dk_CL p s m meth c g b L xs) {off : Int} {tgt : Nat} (hd : decode code pc = .ok (.ifCond .eq off, 3)) (ht : (pc : Int) + off = (tgt : Int)) (k : dk_JL p l e s m below meth c g b tgt lv st S) : dk_JL p l e s m below meth c g b pc lv (.int 0 :: st) S := dg_ifeq C hd ht (fun _ => k) (fun h => absurd rfl h)
theorem dg_nb (C : dk_CL p s m meth c g b L xs) : ¬ (fun q => s.heap.size ≤ q) b := Nat.not_le.mpr C.2.2.2.2.2.2.2.2.2.2.2.1
theorem dg_sld (C : dk_CL p s m meth c g b L xs) {i : Int32} {v : Int32} (hi : vp_in i L) (hv : xs i.toNatClampNeg = v) (hd : decode code pc = .ok (.iaload, 1)) (k : dk_JL p l e s m below meth c g b (pc + 1) lv (.int v :: st) S) : dk_JL p l e s m below meth c g b pc lv (.int i :: .ref b :: st) S := fun H locs ls h1 h2 hl => va_sld C.1 C.2.1 C.2.2.2.2.2.2.2.2.2.2.1 C.2.2.2.2.2.2.2.2.2.2.2.1 (dg_nb C) h2 hi hd (by rw [hv]; exact k H locs ls h1 h2 hl)
theorem dg_slen (C : dk_CL p s m meth c g b L xs) (hd : decode code pc = .ok (.arraylength, 1)) (k : dk_JL p l e s m below meth c g b (pc + 1) lv (.int (Int32.ofNat L) :: st) S) : dk_JL p l e s m below meth c g b pc lv (.ref b :: st) S := fun H locs ls h1 h2 hl => va_slen C.1 C.2.1 C.2.2.2.2.2.2.2.2.2.2.1 C.2.2.2.2.2.2.2.2.2.2.2.1 (dg_nb C) h2 hd (k H locs ls h1 h2 hl)
theorem dg_tin (C : dk_CL p s m meth c g b L xs) {dflt lo hi : Int} {offs : Array Int} {len : Nat} {x : Int32} {off : Int} {tgt : Nat} (hd : decode code pc = .ok (.tableswitch dflt lo hi offs, len)) (h1 : ¬ x.toInt < lo) (h2 : ¬ hi < x.toInt) (ho : offs[(x.toInt - lo).toNat]? = some off) (ht : (pc : Int) + off = (tgt : Int)) (k : dk_JL p l e s m below meth c g b tgt lv st S) : dk_JL p l e s m below meth c g b pc lv (.int x :: st) S := fun H locs ls g1 g2 hl => lv_tableIn C.1 C.2.1 hd h1 h2 ho ht (k H locs ls g1 g2 hl)
theorem dg_tout (C : dk_CL p s m meth c g b L xs) {dflt lo hi : Int} {offs : Array Int} {len : Nat} {x : Int32} {tgt : Nat} (hd : decode code pc = .ok (.tableswitch dflt lo hi offs, len)) (h : x.toInt < lo ∨ hi < x.toInt) (ht : (pc : Int) + dflt = (tgt : Int)) (k : dk_JL p l e s m below meth c g b tgt lv st S) : dk_JL p l e s m below meth c g b pc lv (.int x :: st) S := fun H locs ls g1 g2 hl => lv_tableOut C.1 C.2.1 hd h ht (k H locs ls g1 g2 hl)
theorem dg_calli (C : dk_CL p s m meth c g b L xs) {index fr2 lo2 nL2 n k t : Nat} {y : MethodName} {cc2 : ByteArray} {ret2 : Option FieldType} {As : List Value} {o2 : Option (Int32 × dk_S)} {r : Int32} {S1 : dk_S} (hw : dk_WV "DuckWalkLaw" index y cc2 nL2 ret2 n) (hc : ∃ T N, vwCl[t]? = some (y.cls, T, N)) (ht : t < 10) (hk : dk_kd k = t) (hM : dk_M l g y cc2 nL2 ret2 fr2 lo2 (.ref (g.1 k) :: As) S o2 dk_qi) (ho : o2 = some (r, S1)) (hR : fr2 + 1 ≤ room_1.frames ∧ 8 + (nL2 + 11) + lo2 ≤ room_1.locals) (hn : As.length = n) (hst : (st.map fun v => v.category).sum ≤ 8) {st0 : List Value} (hs0 : st0 = As.reverse ++ .ref (g.1 k) :: st) (hd : decode code pc = .ok (.invokevirtual index, 3)) (kk : dk_JL p l e s m below meth c g b (pc + 3) lv (.int r :: st) S1) : dk_JL p l e s m below meth c g b pc lv st0 S := by
  intro H locs ls hP hS hl
  subst hs0
  obtain ⟨w1, w2, w3, w4, w5, w6, w7, w8⟩ := hw
  obtain ⟨T, N, hc⟩ := hc
  obtain ⟨hx, hb, hml, hown, hts, -, -, hinj, hN, hK, -, -, hg⟩ := C
  have hrun := va_runV (cells := 103) (slots := 6066) (locs := locs) (e := e) (below := below) (meth := meth) (p := p) (l := l) (R := room_1) (H := H) (As := As) (rest := st) (b := g.1 k) (C := y.cls) (g := F0 m pc ls (As.reverse ++ .ref (g.1 k) :: st)) (Ts := dk_tb) ⟨hx, hb, hml, hown, hts⟩ (hM _ ho) (cwV n hts (fun w hw => by
    rcases List.mem_append.mp hw with h | h
    · simp only [List.mem_cons, List.not_mem_nil, or_false] at h
      rcases h with rfl | rfl | rfl | rfl
      · exact ⟨w1, good_of_word (List.mem_filter.mp w1).2⟩
      · exact ⟨w2, good_of_word (List.mem_filter.mp w2).2⟩
      · exact ⟨w3, good_of_word (List.mem_filter.mp w3).2⟩
      · exact ⟨w4, good_of_word (List.mem_filter.mp w4).2⟩
    · exact dk_good w5 w h) rfl rfl rfl ⟨rfl, w6, w7, w8⟩ hR)
    ⟨dk_blind g S _, va_recv hK hP hc (dk_obj hk ht), fun U hU hW => ⟨rfl, hinj, hN.warm hW, va_K.moved hW.alike hK, by rw [hU]; exact hP⟩⟩ rfl hn hl.1 rfl (lv_room hst) hd ⟨Nat.le_of_ble_eq_true rfl, Nat.le_of_ble_eq_true rfl⟩
  exact dk_callQ hrun hS (fun q _ h => by obtain ⟨k, hk, rfl⟩ := h; exact hg k hk) (fun q h => by obtain ⟨k, hk, rfl⟩ := h; exact hg k hk) (fun t H1 locs1 ht1 hB hS1 => kk H1 locs1 ls (by rw [← ht1]; exact hB) hS1 hl)
theorem dg_calll (C : dk_CL p s m meth c g b L xs) {index fr2 lo2 nL2 n k t : Nat} {y : MethodName} {cc2 : ByteArray} {ret2 : Option FieldType} {As : List Value} {o2 : Option (Int64 × dk_S)} {r : Int64} {S1 : dk_S} (hw : dk_WV "DuckWalkLaw" index y cc2 nL2 ret2 n) (hc : ∃ T N, vwCl[t]? = some (y.cls, T, N)) (ht : t < 10) (hk : dk_kd k = t) (hM : dk_M l g y cc2 nL2 ret2 fr2 lo2 (.ref (g.1 k) :: As) S o2 dk_ql) (ho : o2 = some (r, S1)) (hR : fr2 + 1 ≤ room_1.frames ∧ 8 + (nL2 + 11) + lo2 ≤ room_1.locals) (hn : As.length = n) (hst : (st.map fun v => v.category).sum ≤ 8) {st0 : List Value} (hs0 : st0 = As.reverse ++ .ref (g.1 k) :: st) (hd : decode code pc = .ok (.invokevirtual index, 3)) (kk : dk_JL p l e s m below meth c g b (pc + 3) lv (.long r :: st) S1) : dk_JL p l e s m below meth c g b pc lv st0 S := by
  intro H locs ls hP hS hl
  subst hs0
  obtain ⟨w1, w2, w3, w4, w5, w6, w7, w8⟩ := hw
  obtain ⟨T, N, hc⟩ := hc
  obtain ⟨hx, hb, hml, hown, hts, -, -, hinj, hN, hK, -, -, hg⟩ := C
  have hrun := va_runV (cells := 103) (slots := 6066) (locs := locs) (e := e) (below := below) (meth := meth) (p := p) (l := l) (R := room_1) (H := H) (As := As) (rest := st) (b := g.1 k) (C := y.cls) (g := F0 m pc ls (As.reverse ++ .ref (g.1 k) :: st)) (Ts := dk_tb) ⟨hx, hb, hml, hown, hts⟩ (hM _ ho) (cwV n hts (fun w hw => by
    rcases List.mem_append.mp hw with h | h
    · simp only [List.mem_cons, List.not_mem_nil, or_false] at h
      rcases h with rfl | rfl | rfl | rfl
      · exact ⟨w1, good_of_word (List.mem_filter.mp w1).2⟩
      · exact ⟨w2, good_of_word (List.mem_filter.mp w2).2⟩
      · exact ⟨w3, good_of_word (List.mem_filter.mp w3).2⟩
      · exact ⟨w4, good_of_word (List.mem_filter.mp w4).2⟩
    · exact dk_good w5 w h) rfl rfl rfl ⟨rfl, w6, w7, w8⟩ hR)
    ⟨dk_blind g S _, va_recv hK hP hc (dk_obj hk ht), fun U hU hW => ⟨rfl, hinj, hN.warm hW, va_K.moved hW.alike hK, by rw [hU]; exact hP⟩⟩ rfl hn hl.1 rfl (lv_room hst) hd ⟨Nat.le_of_ble_eq_true rfl, Nat.le_of_ble_eq_true rfl⟩
  exact dk_callQ hrun hS (fun q _ h => by obtain ⟨k, hk, rfl⟩ := h; exact hg k hk) (fun q h => by obtain ⟨k, hk, rfl⟩ := h; exact hg k hk) (fun t H1 locs1 ht1 hB hS1 => kk H1 locs1 ls (by rw [← ht1]; exact hB) hS1 hl)
theorem dg_ret (C : dk_CL p s m meth c g b L xs) (hd : decode code pc = .ok (.ireturn, 1)) : dk_JL p l e s m below meth c g b pc lv [.int 1] S := fun H locs ls h1 h2 hl => by
  refine va_forget (fun q hq => h2.2.2 q hq) ?_
  refine W.widen (k := 600000) (n := 7302250) (Nat.le_of_ble_eq_true rfl) (Nat.le_of_ble_eq_true rfl) ?_
  exact lw_ret C.1 C.2.1 C.2.2.2.2.2.1 C.2.2.2.2.2.2.1 hd
end dkl
