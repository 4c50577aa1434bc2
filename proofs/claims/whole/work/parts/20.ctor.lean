/-! WHERE THINGS ARE MADE: worlds as they grow -/
/-- all nest mates' links; the classes of the rows of references -/
def dk_nwa : List Cond := [.methodLinkNest "DuckWalk" 35 yX0_init "DuckWalk", .methodLinkNest "DuckWalk$Course" 11 yX1_init "DuckWalk", .methodLinkNest "DuckWalk$Course" 20 yX3_init "DuckWalk", .methodLinkNest "DuckWalk" 46 yX4_init "DuckWalk", .methodLinkNest "DuckWalk$Reader" 11 yX1_init "DuckWalk", .methodLinkNest "DuckWalk$Reader" 20 yX3_init "DuckWalk", .methodLinkNest "DuckWalk" 53 yX7_init "DuckWalk", .methodLinkNest "DuckWalk$Trial" 11 yX0_init "DuckWalk", .methodLinkNest "DuckWalk" 63 yX2_init "DuckWalk", .methodLinkNest "DuckWalk" 86 yX5_init "DuckWalk", .methodLinkNest "DuckWalk" 87 yX6_init "DuckWalk", .methodLinkNest "DuckWalk" 88 yX1_init "DuckWalk", .methodLinkNest "DuckWalk" 89 yX3_init "DuckWalk", .methodLinkNest "DuckWalk$Script" 33 yX8_isOutside "DuckWalk", .methodLinkNest "DuckWalk$Duck" 39 yX8_isOutside "DuckWalk", .methodLinkNest "DuckWalk$Plank" 35 yX8_isOutside "DuckWalk", .methodLinkNest "DuckWalk$Trial" 62 yX8_isOutside "DuckWalk"]
def dk_NA (U : State) : Prop := ∀ w ∈ dk_nwa, va_Nw w U
theorem dk_NA.same {u U : State} (h : u.vm = U.vm) (hN : dk_NA u) : dk_NA U := fun w hw => va_Nw.same (by revert w; decide) h (hN w hw)
theorem dk_nwa_form : ∀ w ∈ dk_nwa, ∃ a i x h, w = Cond.methodLinkNest a i x h := by
  unfold dk_nwa
  simp
theorem dk_NA.warm {u U : State} (h : u.WarmedH U.vm) (hN : dk_NA u) : dk_NA U := fun w hw => by
  obtain ⟨a, i, x, k, rfl⟩ := dk_nwa_form w hw
  exact va_Nw.warmM h (hN _ hw)
def dk_AO (U : State) : Prop := ∀ C ∈ ["DuckWalk$Row", "DuckWalk$Script", "DuckWalk$Duck", "DuckWalk$Plank", "DuckWalk$Course"], va_AO C U
theorem dk_AO.moved {u U : State} (h : u.vm.Alike U.vm) (hN : dk_AO u) : dk_AO U := fun C hC => (hN C hC).moved h
theorem dk_sameA {D : va_G} {cl : List vw_C} {tys : List (ClassId × FieldType)} {U : State} (h : va_K D cl tys U) {i j : Nat} {c1 c2 : ClassId} {ty : FieldType} (h1 : tys[i]? = some (c1, ty)) (h2 : tys[j]? = some (c2, ty)) : c1 = c2 := by
  have a := (h.2 i _ h1).2
  have b := (h.2 j _ h2).2
  cases ty with
  | object C =>
    obtain ⟨_, _, _, _, _, a⟩ := a
    obtain ⟨_, _, _, _, _, b⟩ := b
    exact Option.some.inj (a.symm.trans b)
  | _ => exact Option.some.inj (Eq.trans (Eq.symm a) b)
def dk_K0 (p : Program) (s : State) (m : MethodId) (args : Array Value) (meth : Method) (c : Code) (D : va_G) (cA : Nat → ClassId) (b0 : Nat) (cc : ByteArray) (own : String) (nL : Nat) : Prop :=
  p.tables.exec = Jvm.exec ∧ c.code = cc ∧ c.maxLocals = nL ∧ s.vm.findClass own = some m.cls ∧ (∀ w ∈ dk_tb, w.before args s = true) ∧ meth.locks = false ∧ dk_NA s ∧ dk_AO s ∧ va_K D vwCl (dk_tys (id, D, cA)) s ∧ b0 ≤ s.heap.size
def dk_JQ (p : Program) (l : Launch) (e : Env) (R : Room) (s : State) (m : MethodId) (args : Array Value) (below : List Frame) (meth : Method) (c : Code) (D : va_G) (b0 nL : Nat) (Q : State → Prop) (pc : Nat) (lv : List (Nat × Value)) (st : List Value) (ws : va_W) (nc ns : Nat) : Prop :=
  ∀ (H : Heap) (locs : List Loc) (ls : Array Slot), va_P D vwCl ws H → va_D (fun q => b0 ≤ q) ws → va_S (fun q => b0 ≤ q) s.heap H locs → lv_has ls nL lv → W p l e R s m args below meth c H locs nc ns Q (F0 m pc ls st)
def dk_QC {τ : Type} (D : va_G) (b0 : Nat) (wf : τ → va_W) : Array Value → State → Outcome → State → Prop := dk_Qm (fun q => b0 ≤ q) none (fun t => ∃ x : τ, va_P D vwCl (wf x) t.heap ∧ va_D (fun q => b0 ≤ q) (wf x))
def dk_PC (D : va_G) (cA : Nat → ClassId) (b0 : Nat) (ws : va_W) (U : State) : Prop := b0 ≤ U.heap.size ∧ dk_NA U ∧ dk_AO U ∧ va_K D vwCl (dk_tys (id, D, cA)) U ∧ va_P D vwCl ws U.heap ∧ va_D (fun q => b0 ≤ q) ws
def dk_MC {τ : Type} (l : Launch) (D : va_G) (cA : Nat → ClassId) (b0 : Nat) (y : MethodName) (cc : ByteArray) (nL fr lo mc ms h0 : Nat) (ws : va_W) (wf : τ → va_W) : Prop := Met l y (Cond.code y cc nL none :: dk_tb) { frames := fr, cells := mc, slots := ms, locals := lo } (va_Pc [.ref h0] (dk_PC D cA b0 ws)) (dk_QC D b0 wf) mc ms (fun q => b0 ≤ q)
section dkc
variable {p : Program} {l : Launch} {e : Env} {R : Room} {s : State} {m : MethodId} {args : Array Value} {below : List Frame} {meth : Method} {c : Code} {D : va_G} {cA : Nat → ClassId} {b0 : Nat} {cc : ByteArray} {own : String} {nL : Nat} {Q : State → Prop} {pc : Nat} {lv : List (Nat × Value)} {st : List Value} {ws : va_W} {nc ns : Nat}
theorem dq_iconst (C : dk_K0 p s m args meth c D cA b0 cc own nL) {n : Int} {v : Int32} (hd : decode cc pc = .ok (.iconst n, 1)) (hv : Int32.ofInt n = v) (k : dk_JQ p l e R s m args below meth c D b0 nL Q (pc + 1) lv (.int v :: st) ws nc ns) : dk_JQ p l e R s m args below meth c D b0 nL Q pc lv st ws nc ns := fun H locs ls h1 h2 h3 hl => lv_iconst C.1 C.2.1 hd hv (k H locs ls h1 h2 h3 hl)
theorem dq_bipush (C : dk_K0 p s m args meth c D cA b0 cc own nL) {n : Int} {v : Int32} (hd : decode cc pc = .ok (.bipush n, 2)) (hv : (Int8.ofInt n).toInt32 = v) (k : dk_JQ p l e R s m args below meth c D b0 nL Q (pc + 2) lv (.int v :: st) ws nc ns) : dk_JQ p l e R s m args below meth c D b0 nL Q pc lv st ws nc ns := fun H locs ls h1 h2 h3 hl => lv_bipush C.1 C.2.1 hd hv (k H locs ls h1 h2 h3 hl)
theorem dq_sipush (C : dk_K0 p s m args meth c D cA b0 cc own nL) {n : Int} {v : Int32} (hd : decode cc pc = .ok (.sipush n, 3)) (hv : (Int16.ofInt n).toInt32 = v) (k : dk_JQ p l e R s m args below meth c D b0 nL Q (pc + 3) lv (.int v :: st) ws nc ns) : dk_JQ p l e R s m args below meth c D b0 nL Q pc lv st ws nc ns := fun H locs ls h1 h2 h3 hl => lv_sipush C.1 C.2.1 hd hv (k H locs ls h1 h2 h3 hl)
theorem dq_lconst (C : dk_K0 p s m args meth c D cA b0 cc own nL) {n : Fin 2} {v : Int64} (hd : decode cc pc = .ok (.lconst n, 1)) (hv : Int64.ofNat (n : Nat) = v) (k : dk_JQ p l e R s m args below meth c D b0 nL Q (pc + 1) lv (.long v :: st) ws nc ns) : dk_JQ p l e R s m args below meth c D b0 nL Q pc lv st ws nc ns := fun H locs ls h1 h2 h3 hl => lv_lconst C.1 C.2.1 hd hv (k H locs ls h1 h2 h3 hl)
theorem dq_iload_n (C : dk_K0 p s m args meth c D cA b0 cc own nL) {k : Fin 4} {x : Int32} (q : Nat) (hq : lv[q]? = some ((k : Nat), .int x)) (hd : decode cc pc = .ok (.iload_n k, 1)) (kk : dk_JQ p l e R s m args below meth c D b0 nL Q (pc + 1) lv (.int x :: st) ws nc ns) : dk_JQ p l e R s m args below meth c D b0 nL Q pc lv st ws nc ns := fun H locs ls h1 h2 h3 hl => lv_iload_n C.1 C.2.1 hd rfl (lv_at hl q hq) (kk H locs ls h1 h2 h3 hl)
theorem dq_istore_n (C : dk_K0 p s m args meth c D cA b0 cc own nL) {k : Fin 4} {i : Nat} {x : Int32} (ks : List Nat) {lv2 : List (Nat × Value)} (hd : decode cc pc = .ok (.istore_n k, 1)) (hi : (k : Nat) = i) (hn : i < nL) (hl2 : lv_pick ((i, Value.int x) :: lv.filter (fun q => !(q.1 == i) && !(q.1 + 1 == i && q.2.category == 2))) ks = lv2) (kk : dk_JQ p l e R s m args below meth c D b0 nL Q (pc + 1) lv2 st ws nc ns) : dk_JQ p l e R s m args below meth c D b0 nL Q pc lv (.int x :: st) ws nc ns := fun H locs ls h1 h2 h3 hl => lv_istore_n C.1 C.2.1 hd hi hl hn rfl (fun ls2 g2 => kk H locs ls2 h1 h2 h3 (lv_sub g2 ks hl2))
theorem dq_aload_n (C : dk_K0 p s m args meth c D cA b0 cc own nL) {k : Fin 4} {x : Nat} (q : Nat) (hq : lv[q]? = some ((k : Nat), .ref x)) (hd : decode cc pc = .ok (.aload_n k, 1)) (kk : dk_JQ p l e R s m args below meth c D b0 nL Q (pc + 1) lv (.ref x :: st) ws nc ns) : dk_JQ p l e R s m args below meth c D b0 nL Q pc lv st ws nc ns := fun H locs ls h1 h2 h3 hl => lv_aload_n C.1 C.2.1 hd rfl (lv_at hl q hq) (kk H locs ls h1 h2 h3 hl)
theorem dq_astore_n (C : dk_K0 p s m args meth c D cA b0 cc own nL) {k : Fin 4} {i : Nat} {x : Nat} (ks : List Nat) {lv2 : List (Nat × Value)} (hd : decode cc pc = .ok (.astore_n k, 1)) (hi : (k : Nat) = i) (hn : i < nL) (hl2 : lv_pick ((i, Value.ref x) :: lv.filter (fun q => !(q.1 == i) && !(q.1 + 1 == i && q.2.category == 2))) ks = lv2) (kk : dk_JQ p l e R s m args below meth c D b0 nL Q (pc + 1) lv2 st ws nc ns) : dk_JQ p l e R s m args below meth c D b0 nL Q pc lv (.ref x :: st) ws nc ns := fun H locs ls h1 h2 h3 hl => lv_astore_n C.1 C.2.1 hd hi hl hn rfl (fun ls2 g2 => kk H locs ls2 h1 h2 h3 (lv_sub g2 ks hl2))
theorem dq_iinc (C : dk_K0 p s m args meth c D cA b0 cc own nL) {i : Nat} {n : Int} {x w v : Int32} (q : Nat) (hq : lv[q]? = some (i, .int x)) (ks : List Nat) {lv2 : List (Nat × Value)} (hd : decode cc pc = .ok (.iinc i n, 3)) (hw : Int32.ofInt n = w) (hv : x + w = v) (hn : i < nL) (hl2 : lv_pick ((i, Value.int v) :: lv.filter (fun q => !(q.1 == i) && !(q.1 + 1 == i && q.2.category == 2))) ks = lv2) (kk : dk_JQ p l e R s m args below meth c D b0 nL Q (pc + 3) lv2 st ws nc ns) : dk_JQ p l e R s m args below meth c D b0 nL Q pc lv st ws nc ns := fun H locs ls h1 h2 h3 hl => lv_iinc C.1 C.2.1 hd hl hq (by rw [hw]; exact hv) hn rfl (fun ls2 g2 => kk H locs ls2 h1 h2 h3 (lv_sub g2 ks hl2))
theorem dq_dup (C : dk_K0 p s m args meth c D cA b0 cc own nL) {va : Value} (hd : decode cc pc = .ok (.dup, 1)) (hva : va.category = 1) (k : dk_JQ p l e R s m args below meth c D b0 nL Q (pc + 1) lv (va :: va :: st) ws nc ns) : dk_JQ p l e R s m args below meth c D b0 nL Q pc lv (va :: st) ws nc ns := fun H locs ls h1 h2 h3 hl => lv_dup C.1 C.2.1 hd hva (k H locs ls h1 h2 h3 hl)
theorem dq_goto (C : dk_K0 p s m args meth c D cA b0 cc own nL) {off : Int} {tgt : Nat} (hd : decode cc pc = .ok (.goto off, 3)) (ht : (pc : Int) + off = (tgt : Int)) (k : dk_JQ p l e R s m args below meth c D b0 nL Q tgt lv st ws nc ns) : dk_JQ p l e R s m args below meth c D b0 nL Q pc lv st ws nc ns := fun H locs ls h1 h2 h3 hl => lv_goto C.1 C.2.1 hd ht (k H locs ls h1 h2 h3 hl)
theorem dq_ge_t (C : dk_K0 p s m args meth c D cA b0 cc own nL) {x y : Int32} {off : Int} {tgt : Nat} (hd : decode cc pc = .ok (.if_icmp .ge off, 3)) (ht : (pc : Int) + off = (tgt : Int)) (hc : y ≤ x) (k : dk_JQ p l e R s m args below meth c D b0 nL Q tgt lv st ws nc ns) : dk_JQ p l e R s m args below meth c D b0 nL Q pc lv (.int y :: .int x :: st) ws nc ns := fun H locs ls h1 h2 h3 hl => lv_icmp_ge C.1 C.2.1 hd ht (fun _ => k H locs ls h1 h2 h3 hl) (fun h => absurd hc h)
theorem dq_ge_f (C : dk_K0 p s m args meth c D cA b0 cc own nL) {x y : Int32} {off : Int} {tgt : Nat} (hd : decode cc pc = .ok (.if_icmp .ge off, 3)) (ht : (pc : Int) + off = (tgt : Int)) (hc : ¬ y ≤ x) (k : dk_JQ p l e R s m args below meth c D b0 nL Q (pc + 3) lv st ws nc ns) : dk_JQ p l e R s m args below meth c D b0 nL Q pc lv (.int y :: .int x :: st) ws nc ns := fun H locs ls h1 h2 h3 hl => lv_icmp_ge C.1 C.2.1 hd ht (fun h => absurd h hc) (fun _ => k H locs ls h1 h2 h3 hl)
theorem dq_ws {ws2 : va_W} (h : ws = ws2) (k : dk_JQ p l e R s m args below meth c D b0 nL Q pc lv st ws2 nc ns) : dk_JQ p l e R s m args below meth c D b0 nL Q pc lv st ws nc ns := by rw [h]; exact k
theorem dq_objInit (C : dk_K0 p s m args meth c D cA b0 cc own nL) {index a : Nat} (hw : Cond.methodLink own index Lib.objectInit ∈ dk_tb) (hR : 1 ≤ R.frames) (hlo : (st.map fun v => v.category).sum + 12 ≤ R.locals) (hd : decode cc pc = .ok (.invokespecial index, 3)) (k : dk_JQ p l e R s m args below meth c D b0 nL Q (pc + 3) lv st ws nc ns) : dk_JQ p l e R s m args below meth c D b0 nL Q pc lv (.ref a :: st) ws nc ns := fun H locs ls h1 h2 h3 hl => by
  refine W.objInit C.1 C.2.1 C.2.2.2.1 (C.2.2.2.2.1 _ hw) (C.2.2.2.2.1 _ (dk_m1 22 rfl rfl)) (C.2.2.2.2.1 _ (dk_m1 23 rfl rfl)) rfl (hl.1.trans C.2.2.1.symm) rfl hd hR ?_ (k H locs ls h1 h2 h3 hl)
  show 2 * 0 + _ + 12 ≤ _
  omega
theorem dq_getr (C : dk_K0 p s m args meth c D cA b0 cc own nL) {index t j k q a : Nat} {fs : List Value} (hf : dk_F own index t j) (hk : ws[k]? = some (a, .inr (t, fs))) (hj : fs[j]? = some (.ref q)) (hd : decode cc pc = .ok (.getfield index, 3)) (kk : dk_JQ p l e R s m args below meth c D b0 nL Q (pc + 3) lv (.ref q :: st) ws nc ns) : dk_JQ p l e R s m args below meth c D b0 nL Q pc lv (.ref a :: st) ws nc ns := by
  obtain ⟨Cn, T, N, ref, ty0, h1, h2, h3, h4, h5, h6, h7, h8, h9⟩ := hf
  intro H locs ls e1 e2 e3 hl
  subst h8
  exact va_get C.1 C.2.1 C.2.2.2.2.1 h5 C.2.2.2.1 C.2.2.2.2.2.2.2.2.1 e1 k hk h1 j h3 (C.2.2.2.2.1 _ h9) (fun _ h => h) hj hd (kk H locs ls e1 e2 e3 hl)
theorem dq_put (C : dk_K0 p s m args meth c D cA b0 cc own nL) {index t j k a : Nat} {v : Value} {ty : FieldType} {fs : List Value} {ws2 : va_W} (hf : dk_F own index t j) (hp : dk_Fp t j ty) (hn : narrow ty v = v) (hfit : fits ty v = true) (hk : ws[k]? = some (a, .inr (t, fs))) (hj : j < fs.length) (hA : ws.set k (a, .inr (t, fs.set j v)) = ws2) (hd : decode cc pc = .ok (.putfield index, 3)) (kk : dk_JQ p l e R s m args below meth c D b0 nL Q (pc + 3) lv st ws2 nc ns) : dk_JQ p l e R s m args below meth c D b0 nL Q pc lv (v :: .ref a :: st) ws nc ns := by
  obtain ⟨Cn, T, N, ref, ty0, h1, h2, h3, h4, h5, h6, h7, h8, h9⟩ := hf
  obtain ⟨hp1, hp2⟩ := hp _ _ _ h1
  intro H locs ls e1 e2 e3 hl
  subst h8
  refine va_put (A := fun q => b0 ≤ q) C.1 C.2.1 C.2.2.2.2.1 h5 ty0 h6 h7 C.2.2.2.1 C.2.2.2.2.2.2.2.2.1 e1 e2 e3 k hk h1 j h3 (C.2.2.2.2.1 _ h9) (fun _ h => h) hp1 hp2 hn hfit hj hd (fun H1 locs1 hP1 hD1 hS1 => ?_)
  rw [hA] at hP1 hD1
  exact kk H1 locs1 ls hP1 hD1 hS1 hl
def dk_Ff (own : String) (t j : Nat) (ty : FieldType) : Prop := ∀ (C : String) (T : u_T) (N : Nat), vwCl[t]? = some (C, T, N) → (T j).2.2.2 = true ∧ (T j).1 = own ∧ parseFieldDescriptor (T j).2.2.1 = some ty
theorem dq_putF (C : dk_K0 p s m args meth c D cA b0 cc own nL) {index t j k a : Nat} {v : Value} {ty : FieldType} {fs : List Value} {ws2 : va_W} (hin : meth.name = "<init>") (hf : dk_F own index t j) (hp : dk_Ff own t j ty) (hn : narrow ty v = v) (hfit : fits ty v = true) (hk : ws[k]? = some (a, .inr (t, fs))) (hj : j < fs.length) (hA : ws.set k (a, .inr (t, fs.set j v)) = ws2) (hd : decode cc pc = .ok (.putfield index, 3)) (kk : dk_JQ p l e R s m args below meth c D b0 nL Q (pc + 3) lv st ws2 nc ns) : dk_JQ p l e R s m args below meth c D b0 nL Q pc lv (v :: .ref a :: st) ws nc ns := by
  obtain ⟨Cn, T, N, ref, ty0, h1, h2, h3, h4, h5, h6, h7, h8, h9⟩ := hf
  obtain ⟨hp1, hp0, hp2⟩ := hp _ _ _ h1
  intro H locs ls e1 e2 e3 hl
  subst h8
  refine va_putF (A := fun q => b0 ≤ q) C.1 C.2.1 C.2.2.2.2.1 h5 ty0 h6 h7 C.2.2.2.1 C.2.2.2.2.2.2.2.2.1 e1 e2 e3 k hk h1 j h3 (C.2.2.2.2.1 _ h9) (fun _ h => h) hp1 hin hp0 hp2 hn hfit hj hd (fun H1 locs1 hP1 hD1 hS1 => ?_)
  rw [hA] at hP1 hD1
  exact kk H1 locs1 ls hP1 hD1 hS1 hl
theorem dk_b0 (C : dk_K0 p s m args meth c D cA b0 cc own nL) : ∀ q, s.heap.size ≤ q → (fun q => b0 ≤ q) q := fun _ h => Nat.le_trans C.2.2.2.2.2.2.2.2.2 h
/-- a new object: its class's number, its blank fields -/
def dk_Nw (own : String) (index t : Nat) (fs : List Value) : Prop := ∃ (Cn : String) (T : u_T) (N : Nat) (ty : Nat → FieldType), vwCl[t]? = some (Cn, T, N) ∧ N = fs.length ∧ (∀ w ∈ u_ws Cn T N, w ∈ dk_tb) ∧ (∀ k, k < N → parseFieldDescriptor (T k).2.2.1 = some (ty k)) ∧ (∀ j, j < N → defaultValue (ty j) = vp_V fs j) ∧ Cond.classLink own index Cn ∈ dk_tb ∧ Cond.instantiable Cn N ∈ dk_tb ∧ Cond.initialized Cn ∈ dk_tb
theorem dq_new (C : dk_K0 p s m args meth c D cA b0 cc own nL) {index t : Nat} {fs : List Value} {nc2 ns2 : Nat} (hw : dk_Nw own index t fs) (h1 : nc + 1 ≤ R.cells) (h2 : ns + fs.length ≤ R.slots) (e1 : nc + 1 = nc2) (e2 : ns + fs.length = ns2) (hd : decode cc pc = .ok (.new index, 3)) (kk : ∀ q : Nat, dk_JQ p l e R s m args below meth c D b0 nL Q (pc + 3) lv (.ref q :: st) (ws ++ [(q, .inr (t, fs))]) nc2 ns2) : dk_JQ p l e R s m args below meth c D b0 nL Q pc lv st ws nc ns := by
  subst e1; subst e2
  obtain ⟨Cn, T, N, ty, a1, a2, a3, a4, a5, a6, a7, a8⟩ := hw
  subst a2
  intro H locs ls hP hD hS hl
  exact va_new C.1 C.2.1 C.2.2.2.2.1 a3 ty a4 C.2.2.2.1 (C.2.2.2.2.1 _ a6) (C.2.2.2.2.1 _ a7) (C.2.2.2.2.1 _ a8) C.2.2.2.2.2.2.2.2.1 hP hD hS (dk_b0 C) a1 a5 h1 h2 hd (fun q H1 hP1 hD1 hS1 => kk q H1 locs ls hP1 hD1 hS1 hl)
theorem dq_newa (C : dk_K0 p s m args meth c D cA b0 cc own nL) {atype : ArrayType} {ty : FieldType} {n : Int32} {N' nc2 ns2 t0 : Nat} {a0 : vp_A} (hw : Cond.arrayClass (newarray.typeOf atype) ∈ dk_tb) (hty : newarray.typeOf atype = ty) (ht : (dk_tys (id, D, cA))[t0]? = some (cA t0, ty)) (ha : ∀ cA : ClassId, vp_cell cA a0 = arrV cA N' (fun _ => defaultValue ty)) (hn : ¬ n < 0) (hN : n.toNatClampNeg = N') (hb : N' * componentBytes ty ≤ 536870912) (h1 : nc + 1 ≤ R.cells) (h2 : ns + N' ≤ R.slots) (e1 : nc + 1 = nc2) (e2 : ns + N' = ns2) (hd : decode cc pc = .ok (.newarray atype, 2)) (kk : ∀ q : Nat, dk_JQ p l e R s m args below meth c D b0 nL Q (pc + 2) lv (.ref q :: st) (ws ++ [(q, .inl (cA t0, a0))]) nc2 ns2) : dk_JQ p l e R s m args below meth c D b0 nL Q pc lv (.int n :: st) ws nc ns := by
  subst e1; subst e2
  intro H locs ls hP hD hS hl
  refine va_newa C.1 C.2.1 (C.2.2.2.2.1 _ hw) hty C.2.2.2.2.2.2.2.2.1 hP hD hS (dk_b0 C) ha hn hN hb h1 h2 hd (fun q cB H1 hK1 hP1 hD1 hS1 => ?_)
  have hl0 : t0 < (dk_tys (id, D, cA)).length := (List.getElem?_eq_some_iff.mp ht).1
  have hs : cA t0 = cB := dk_sameA hK1 (i := t0) (j := (dk_tys (id, D, cA)).length) (by rw [List.getElem?_append_left hl0]; exact ht) (by rw [List.getElem?_append_right (Nat.le_refl _)]; simp)
  subst hs
  exact kk q H1 locs ls hP1 hD1 hS1 hl
theorem dq_newq (C : dk_K0 p s m args meth c D cA b0 cc own nL) {index t0 nc2 ns2 : Nat} {Cn : String} {n : Int32} {N' : Nat} (hw : Cond.classLink own index Cn ∈ dk_tb) (hc : Cn ∈ ["DuckWalk$Row", "DuckWalk$Script", "DuckWalk$Duck", "DuckWalk$Plank", "DuckWalk$Course"]) (ht : (dk_tys (id, D, cA))[t0]? = some (cA t0, .object Cn)) (hn : ¬ n < 0) (hN : n.toNatClampNeg = N') (hb : N' * 4 ≤ 536870912) (h1 : nc + 1 ≤ R.cells) (h2 : ns + N' ≤ R.slots) (e1 : nc + 1 = nc2) (e2 : ns + N' = ns2) (hd : decode cc pc = .ok (.anewarray index, 3)) (kk : ∀ q : Nat, dk_JQ p l e R s m args below meth c D b0 nL Q (pc + 3) lv (.ref q :: st) (ws ++ [(q, .inl (cA t0, N', .inr (.inr (.inr (.inr (fun _ => none))))))]) nc2 ns2) : dk_JQ p l e R s m args below meth c D b0 nL Q pc lv (.int n :: st) ws nc ns := by
  subst e1; subst e2
  intro H locs ls hP hD hS hl
  refine va_newq C.1 C.2.1 C.2.2.2.1 (C.2.2.2.2.1 _ hw) (C.2.2.2.2.2.2.2.1 _ hc) C.2.2.2.2.2.2.2.2.1 hP hD hS (dk_b0 C) hn hN hb h1 h2 hd (fun q cB H1 hK1 hP1 hD1 hS1 => ?_)
  have hl0 : t0 < (dk_tys (id, D, cA)).length := (List.getElem?_eq_some_iff.mp ht).1
  have hs : cA t0 = cB := dk_sameA hK1 (i := t0) (j := (dk_tys (id, D, cA)).length) (by rw [List.getElem?_append_left hl0]; exact ht) (by rw [List.getElem?_append_right (Nat.le_refl _)]; simp)
  subst hs
  exact kk q H1 locs ls hP1 hD1 hS1 hl
theorem dq_aast (C : dk_K0 p s m args meth c D cA b0 cc own nL) {k k2 t t0 n a v : Nat} {i : Int32} {f : Nat → Option Nat} {vs : List Value} {r : vw_C} {ws2 : va_W} (ha : ws[k]? = some (a, .inl (cA t0, n, .inr (.inr (.inr (.inr f)))))) (ht : (dk_tys (id, D, cA))[t0]? = some (cA t0, .object r.1)) (hv : ws[k2]? = some (v, .inr (t, vs))) (hc : vwCl[t]? = some r) (hi : vp_in i n) (hA : ws.set k (a, .inl (cA t0, n, .inr (.inr (.inr (.inr (va_up f i.toNatClampNeg (some v))))))) = ws2) (hd : decode cc pc = .ok (.aastore, 1)) (kk : dk_JQ p l e R s m args below meth c D b0 nL Q (pc + 1) lv st ws2 nc ns) : dk_JQ p l e R s m args below meth c D b0 nL Q pc lv (.ref v :: .int i :: .ref a :: st) ws nc ns := by
  intro H locs ls hP hD hS hl
  refine va_astq C.1 C.2.1 C.2.2.2.2.2.2.2.2.1 hP hD hS k t0 k2 t ha ht hv hc hi hd (fun H1 locs1 hP1 hD1 hS1 => ?_)
  rw [hA] at hP1 hD1
  exact kk H1 locs1 ls hP1 hD1 hS1 hl
theorem dq_iast (C : dk_K0 p s m args meth c D cA b0 cc own nL) {k n a : Nat} {i x : Int32} {f : Nat → Int32} {ws2 : va_W} (ha : ws[k]? = some (a, .inl (cA 0, n, .inl f))) (hi : vp_in i n) (hA : ws.set k (a, .inl (cA 0, n, .inl (upd f i.toNatClampNeg x))) = ws2) (hd : decode cc pc = .ok (.iastore, 1)) (kk : dk_JQ p l e R s m args below meth c D b0 nL Q (pc + 1) lv st ws2 nc ns) : dk_JQ p l e R s m args below meth c D b0 nL Q pc lv (.int x :: .int i :: .ref a :: st) ws nc ns := by
  intro H locs ls hP hD hS hl
  refine va_iast C.1 C.2.1 C.2.2.2.2.2.2.2.2.1 hP hD hS k 0 ha rfl hi hd (fun H1 locs1 hP1 hD1 hS1 => ?_)
  rw [hA] at hP1 hD1
  exact kk H1 locs1 ls hP1 hD1 hS1 hl
/-- the words of a constructor's call -/
def dk_WI (own : String) (index : Nat) (y : MethodName) (cc2 : ByteArray) (nL2 : Nat) : Prop := (Cond.methodLink own index y ∈ dk_tb ∨ ∃ host, Cond.methodLinkNest own index y host ∈ dk_nwa) ∧ Cond.instanceMethod y ∈ dk_tb ∧ Cond.initialized y.cls ∈ dk_tb ∧ Cond.code y cc2 nL2 none ∈ dk_tb ∧ y.cls ≠ "java/lang/invoke/MethodHandle" ∧ y.cls ≠ "java/lang/invoke/VarHandle" ∧ (parseMethodDescriptor y.desc).map (fun d => d.parameters.length) = some 0 ∧ y.name = "<init>"
theorem dq_init (C : dk_K0 p s m args meth c D cA b0 cc own nL) {τ : Type} {index fr2 lo2 nL2 mc ms h0 nc2 ns2 : Nat} {y : MethodName} {cc2 : ByteArray} {wf : τ → va_W} (hw : dk_WI own index y cc2 nL2) (hM : dk_MC l D cA b0 y cc2 nL2 fr2 lo2 mc ms h0 ws wf) (hR : fr2 + 1 ≤ R.frames ∧ 8 + (nL2 + 11) + lo2 ≤ R.locals) (h1 : nc + mc ≤ R.cells) (h2 : ns + ms ≤ R.slots) (e1 : nc + mc = nc2) (e2 : ns + ms = ns2) (hst : (st.map fun v => v.category).sum ≤ 8) (hd : decode cc pc = .ok (.invokespecial index, 3)) (kk : ∀ x, dk_JQ p l e R s m args below meth c D b0 nL Q (pc + 3) lv st (wf x) nc2 ns2) : dk_JQ p l e R s m args below meth c D b0 nL Q pc lv (.ref h0 :: st) ws nc ns := by
  subst e1; subst e2
  intro H locs ls hP hD hS hl
  obtain ⟨w1, w2, w4, w5, w6, w7, w8, w9⟩ := hw
  obtain ⟨hx, hb, hml, hown, hts, hlk, hN, hO, hK, hb0⟩ := C
  have hPre : PreS s H (va_Pc [.ref h0] (dk_PC D cA b0 ws)) (.ref h0 :: []) := ⟨fun a U gg mk q => by
      obtain ⟨q0, q1, q2, q3, q4, q5⟩ := q
      exact ⟨q0, q1, dk_NA.same (u := U) (U := U.calling gg mk a) rfl q2, dk_AO.moved (u := U) (U := U.calling gg mk a) (Vm.Alike.refl U.vm) q3, va_K.moved (u := U) (U := U.calling gg mk a) (Vm.Alike.refl U.vm) q4, q5⟩, fun U hU hW => ⟨rfl, by rw [hU]; exact Nat.le_trans hb0 hS.1, hN.warm hW, hO.moved hW.alike, va_K.moved hW.alike hK, by rw [hU]; exact hP, hD⟩⟩
  have hrun : va_Run p l e R s m args below meth c H locs nc ns mc ms (F0 m pc ls ([].reverse ++ .ref h0 :: st)) st (dk_QC D b0 wf [.ref h0].toArray) (fun q => b0 ≤ q) := by
    rcases w1 with w1 | ⟨host, w1⟩
    · exact va_runI (As := []) (Ts := dk_tb) ⟨hx, hb, hml, hown, hts⟩ hM ⟨callB_of 0 hts (dk_good w5) rfl rfl rfl (hts _ w4) (hts _ w1) ⟨w6, w7, w8⟩ hR, w9, hts _ w2⟩ hPre rfl rfl hl.1 rfl (lv_room hst) hd ⟨h1, h2⟩
    · exact va_runIN (As := []) (Ts := dk_tb) ⟨hx, hb, hml, hown, hts⟩ hM ⟨va_cnB 0 hts (dk_good w5) rfl rfl rfl (hN _ w1) (hts _ w4) ⟨w6, w7, w8⟩ hR, w9, hts _ w2⟩ hPre rfl rfl hl.1 rfl (lv_room hst) hd ⟨h1, h2⟩
  exact dk_callQ hrun hS (fun q _ h => h) (fun q h => h) (fun t H1 locs1 ht1 hB hS1 => by
    obtain ⟨x, hP1, hD1⟩ := hB
    exact kk x H1 locs1 ls (by rw [← ht1]; exact hP1) hD1 hS1 hl)
theorem dq_vret (C : dk_K0 p s m args meth c D cA b0 cc own nL) {τ : Type} {wf : τ → va_W} (hr : meth.sig.returnType = none) (x : τ) (hx : ws = wf x) (hd : decode cc pc = .ok (.return_, 1)) : dk_JQ p l e R s m args below meth c D b0 nL (MQ below (dk_QC D b0 wf) args s nc ns (fun q => b0 ≤ q)) pc lv [] ws nc ns := by
  intro H locs ls hP hD hS hl
  exact W.vret C.1 C.2.1 hr (fun t ht hW => ⟨⟨rfl, x, by rw [ht, ← hx]; exact hP, by rw [← hx]; exact hD⟩, hS.F ht⟩) hS.2.2 hd C.2.2.2.2.2.1
end dkc
theorem dk_enterC {l : Launch} {D : va_G} {cA : Nat → ClassId} {b0 : Nat} {y : MethodName} {cc : ByteArray} {nL fr lo mc ms h0 : Nat} {ws : va_W} {τ : Type} {wf : τ → va_W} (own : String) (hy : plainFor y = true) (ho : y.cls = own) (hn : y.name = "<init>") (hlen : 1 ≤ nL)
    (body : ∀ (p : Program) (e : Env) (s : State) (m : MethodId) (args : Array Value) (below : List Frame) (meth : Method) (c : Code), dk_K0 p s m args meth c D cA b0 cc own nL → meth.sig.returnType = none → meth.name = "<init>" → dk_JQ p l e { frames := fr, cells := mc, slots := ms, locals := lo } s m args below meth c D b0 nL (MQ below (dk_QC D b0 wf) args s mc ms (fun q => b0 ≤ q)) 0 [(0, .ref h0)] [] ws 0 0) : dk_MC l D cA b0 y cc nL fr lo mc ms h0 ws wf := by
  refine dk_ofWF (cc := cc) (maxL := nL) (ret := none) hy rfl ?_
  intro p e s m args below meth c s₁ B hml hv
  obtain ⟨rfl, hb0, hN, hO, hK, hP, hD⟩ := hv
  have hts := atoms_spec (ws := Cond.code y cc nL none :: dk_tb) B.pre
  have hown : s.vm.findClass own = some m.cls := by rw [← ho]; exact findClass_of_methodNamed B.named
  have hin : meth.name = "<init>" := by rw [← hn]; exact (name_of_methodNamed B.named B.method).1
  have hl := lv_entry [.ref h0] (n := nL) (by simpa [lg_sl, Value.category] using hlen)
  rw [lg_entry_eq]
  exact body p e s m _ below meth c ⟨B.exec, B.bytes, hml, hown, fun w hw => hts w (List.mem_cons_of_mem _ hw), B.notSynchronized, hN, hO, hK, hb0⟩ B.returns hin s.heap [] _ hP hD va_S.rf hl
