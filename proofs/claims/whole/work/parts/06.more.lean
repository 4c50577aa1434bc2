/-- how often a loop may go round in a function -/
noncomputable def dk_FU : Nat := Classical.choose (⟨20000, Nat.le_refl _⟩ : ∃ n, 20000 ≤ n)
theorem dk_FU_ge : 20000 ≤ dk_FU := Classical.choose_spec (⟨20000, Nat.le_refl _⟩ : ∃ n, 20000 ≤ n)
section dkmore
variable {p : Program} {l : Launch} {e : Env} {R : Room} {s : State} {m : MethodId} {args : Array Value} {below : List Frame} {meth : Method} {c : Code} {g : dk_G} {cc : ByteArray} {own : String} {nL : Nat} {ret : Option FieldType} {α β : Type} {qa : α → Option Value × dk_S} {pc : Nat} {lv : List (Nat × Value)} {st : List Value} {S : dk_S} {o : Option β} {K : β → Option α}
theorem dj_sub {lv2 : List (Nat × Value)} (ks : List Nat) (h : lv_pick lv ks = lv2) (k : dk_J p l e R s m args below meth c g nL qa pc lv2 st S o K) : dk_J p l e R s m args below meth c g nL qa pc lv st S o K := fun out ho H locs ls hP hS hl => k out ho H locs ls hP hS (lv_sub hl ks h)
/-- a place where roads join: what goes on there is said once -/
theorem dj_join {τ : Type} {kont : τ → Option β} {body : (τ → Option β) → Option β} (pcj : Nat) (lvf : τ → List (Nat × Value)) (stf : τ → List Value) (Sf : τ → dk_S) (h1 : ∀ t, dk_J p l e R s m args below meth c g nL qa pcj (lvf t) (stf t) (Sf t) (kont t) K) (h2 : ∀ k : τ → Option β, (∀ t, dk_J p l e R s m args below meth c g nL qa pcj (lvf t) (stf t) (Sf t) (k t) K) → dk_J p l e R s m args below meth c g nL qa pc lv st S (body k) K) : dk_J p l e R s m args below meth c g nL qa pc lv st S (dk_lt kont body) K := h2 kont h1
/-- a number that comes out of some branches -/
theorem dj_dia {f : Int32 → Option β} {x : Int32} {st0 : List Value} (pcj : Nat) (st : List Value) (h1 : ∀ y, dk_J p l e R s m args below meth c g nL qa pcj lv (.int y :: st) S (f y) K) (h2 : (∀ y, dk_J p l e R s m args below meth c g nL qa pcj lv (.int y :: st) S (f y) K) → dk_J p l e R s m args below meth c g nL qa pc lv st0 S (dk_lt x f) K) : dk_J p l e R s m args below meth c g nL qa pc lv st0 S (dk_lt x f) K := h2 h1
theorem dj_ltite {P : Prop} {dp : Decidable P} {x y : Int32} {f : Int32 → Option β} (k : dk_J p l e R s m args below meth c g nL qa pc lv st S (if P then dk_lt x f else dk_lt y f) K) : dk_J p l e R s m args below meth c g nL qa pc lv st S (dk_lt (if P then x else y) f) K := by
  by_cases h : P
  · rw [if_pos h] at k ⊢; exact k
  · rw [if_neg h] at k ⊢; exact k
theorem dj_tsw_d (C : dk_C p l e R s m args below meth c g cc own nL ret) {dflt lo hi : Int} {offs : Array Int} {len : Nat} {x : Int32} {tgt : Nat} (hd : decode cc pc = .ok (.tableswitch dflt lo hi offs, len)) (h : x.toInt < lo ∨ hi < x.toInt ∨ offs[(x.toInt - lo).toNat]? = some dflt) (ht : (pc : Int) + dflt = (tgt : Int)) (k : dk_J p l e R s m args below meth c g nL qa tgt lv st S o K) : dk_J p l e R s m args below meth c g nL qa pc lv (.int x :: st) S o K := by
  by_cases h1 : x.toInt < lo
  · exact dj_tsw_out C hd (Or.inl h1) ht k
  · by_cases h2 : hi < x.toInt
    · exact dj_tsw_out C hd (Or.inr h2) ht k
    · exact dj_tsw_in C hd h1 h2 (by rcases h with h | h | h; exact absurd h h1; exact absurd h h2; exact h) ht k
theorem dk_teq {x y : Int32} {n : Int} (h : x.toInt = n) (hy : y.toInt = n) : x = y := Int32.toInt_inj.mp (h.trans hy.symm)
theorem dj_callVi (C : dk_C p l e R s m args below meth c g cc own nL ret) {index fr2 lo2 nL2 n : Nat} {y : MethodName} {cc2 : ByteArray} {ret2 : Option FieldType} {k t : Nat} {As : List Value} {o2 : Option (Int32 × dk_S)} {f : Int32 × dk_S → Option β} (hw : dk_WV own index y cc2 nL2 ret2 n) (hc : ∃ T N, vwCl[t]? = some (y.cls, T, N)) (ht : t < 10) (hk : dk_kd k = t) (hM : dk_M l g y cc2 nL2 ret2 fr2 lo2 (.ref (g.1 k) :: As) S o2 dk_qi) (hR : fr2 + 1 ≤ R.frames ∧ 8 + (nL2 + 11) + lo2 ≤ R.locals) (hn : As.length = n) (hst : (st.map fun v => v.category).sum ≤ 8) {st0 : List Value} (hs0 : st0 = As.reverse ++ .ref (g.1 k) :: st) (hd : decode cc pc = .ok (.invokevirtual index, 3)) (kk : ∀ r : Int32 × dk_S, dk_J p l e R s m args below meth c g nL qa (pc + 3) lv (.int r.1 :: st) r.2 (f r) K) : dk_J p l e R s m args below meth c g nL qa pc lv st0 S (o2.bind f) K := dj_callV C hw hc ht hk hM hR hn hst hs0 hd kk
theorem dj_callSi (C : dk_C p l e R s m args below meth c g cc own nL ret) {index fr2 lo2 nL2 n : Nat} {y : MethodName} {cc2 : ByteArray} {ret2 : Option FieldType} {As : List Value} {o2 : Option (Int32 × dk_S)} {f : Int32 × dk_S → Option β} (hw : dk_WS own index y cc2 nL2 ret2 n) (hM : dk_M l g y cc2 nL2 ret2 fr2 lo2 As S o2 dk_qi) (hR : fr2 + 1 ≤ R.frames ∧ 8 + (nL2 + 11) + lo2 ≤ R.locals) (hn : As.length = n) (hst : (st.map fun v => v.category).sum ≤ 8) {st0 : List Value} (hs0 : st0 = As.reverse ++ st) (hd : decode cc pc = .ok (.invokestatic index, 3)) (kk : ∀ r : Int32 × dk_S, dk_J p l e R s m args below meth c g nL qa (pc + 3) lv (.int r.1 :: st) r.2 (f r) K) : dk_J p l e R s m args below meth c g nL qa pc lv st0 S (o2.bind f) K := dj_callS C hw hM hR hn hst hs0 hd kk
theorem dj_callNi (C : dk_C p l e R s m args below meth c g cc own nL ret) {index fr2 lo2 nL2 n : Nat} {y : MethodName} {cc2 : ByteArray} {ret2 : Option FieldType} {As : List Value} {o2 : Option (Int32 × dk_S)} {f : Int32 × dk_S → Option β} (hw : dk_WN own index y cc2 nL2 ret2 n) (hM : dk_M l g y cc2 nL2 ret2 fr2 lo2 As S o2 dk_qi) (hR : fr2 + 1 ≤ R.frames ∧ 8 + (nL2 + 11) + lo2 ≤ R.locals) (hn : As.length = n) (hst : (st.map fun v => v.category).sum ≤ 8) {st0 : List Value} (hs0 : st0 = As.reverse ++ st) (hd : decode cc pc = .ok (.invokestatic index, 3)) (kk : ∀ r : Int32 × dk_S, dk_J p l e R s m args below meth c g nL qa (pc + 3) lv (.int r.1 :: st) r.2 (f r) K) : dk_J p l e R s m args below meth c g nL qa pc lv st0 S (o2.bind f) K := dj_callN C hw hM hR hn hst hs0 hd kk
theorem dj_callVl (C : dk_C p l e R s m args below meth c g cc own nL ret) {index fr2 lo2 nL2 n : Nat} {y : MethodName} {cc2 : ByteArray} {ret2 : Option FieldType} {k t : Nat} {As : List Value} {o2 : Option (Int64 × dk_S)} {f : Int64 × dk_S → Option β} (hw : dk_WV own index y cc2 nL2 ret2 n) (hc : ∃ T N, vwCl[t]? = some (y.cls, T, N)) (ht : t < 10) (hk : dk_kd k = t) (hM : dk_M l g y cc2 nL2 ret2 fr2 lo2 (.ref (g.1 k) :: As) S o2 dk_ql) (hR : fr2 + 1 ≤ R.frames ∧ 8 + (nL2 + 11) + lo2 ≤ R.locals) (hn : As.length = n) (hst : (st.map fun v => v.category).sum ≤ 8) {st0 : List Value} (hs0 : st0 = As.reverse ++ .ref (g.1 k) :: st) (hd : decode cc pc = .ok (.invokevirtual index, 3)) (kk : ∀ r : Int64 × dk_S, dk_J p l e R s m args below meth c g nL qa (pc + 3) lv (.long r.1 :: st) r.2 (f r) K) : dk_J p l e R s m args below meth c g nL qa pc lv st0 S (o2.bind f) K := dj_callV C hw hc ht hk hM hR hn hst hs0 hd kk
theorem dj_callSl (C : dk_C p l e R s m args below meth c g cc own nL ret) {index fr2 lo2 nL2 n : Nat} {y : MethodName} {cc2 : ByteArray} {ret2 : Option FieldType} {As : List Value} {o2 : Option (Int64 × dk_S)} {f : Int64 × dk_S → Option β} (hw : dk_WS own index y cc2 nL2 ret2 n) (hM : dk_M l g y cc2 nL2 ret2 fr2 lo2 As S o2 dk_ql) (hR : fr2 + 1 ≤ R.frames ∧ 8 + (nL2 + 11) + lo2 ≤ R.locals) (hn : As.length = n) (hst : (st.map fun v => v.category).sum ≤ 8) {st0 : List Value} (hs0 : st0 = As.reverse ++ st) (hd : decode cc pc = .ok (.invokestatic index, 3)) (kk : ∀ r : Int64 × dk_S, dk_J p l e R s m args below meth c g nL qa (pc + 3) lv (.long r.1 :: st) r.2 (f r) K) : dk_J p l e R s m args below meth c g nL qa pc lv st0 S (o2.bind f) K := dj_callS C hw hM hR hn hst hs0 hd kk
theorem dj_callNl (C : dk_C p l e R s m args below meth c g cc own nL ret) {index fr2 lo2 nL2 n : Nat} {y : MethodName} {cc2 : ByteArray} {ret2 : Option FieldType} {As : List Value} {o2 : Option (Int64 × dk_S)} {f : Int64 × dk_S → Option β} (hw : dk_WN own index y cc2 nL2 ret2 n) (hM : dk_M l g y cc2 nL2 ret2 fr2 lo2 As S o2 dk_ql) (hR : fr2 + 1 ≤ R.frames ∧ 8 + (nL2 + 11) + lo2 ≤ R.locals) (hn : As.length = n) (hst : (st.map fun v => v.category).sum ≤ 8) {st0 : List Value} (hs0 : st0 = As.reverse ++ st) (hd : decode cc pc = .ok (.invokestatic index, 3)) (kk : ∀ r : Int64 × dk_S, dk_J p l e R s m args below meth c g nL qa (pc + 3) lv (.long r.1 :: st) r.2 (f r) K) : dk_J p l e R s m args below meth c g nL qa pc lv st0 S (o2.bind f) K := dj_callN C hw hM hR hn hst hs0 hd kk
theorem dj_callVv (C : dk_C p l e R s m args below meth c g cc own nL ret) {index fr2 lo2 nL2 n : Nat} {y : MethodName} {cc2 : ByteArray} {ret2 : Option FieldType} {k t : Nat} {As : List Value} {o2 : Option (dk_S)} {f : dk_S → Option β} (hw : dk_WV own index y cc2 nL2 ret2 n) (hc : ∃ T N, vwCl[t]? = some (y.cls, T, N)) (ht : t < 10) (hk : dk_kd k = t) (hM : dk_M l g y cc2 nL2 ret2 fr2 lo2 (.ref (g.1 k) :: As) S o2 dk_qv) (hR : fr2 + 1 ≤ R.frames ∧ 8 + (nL2 + 11) + lo2 ≤ R.locals) (hn : As.length = n) (hst : (st.map fun v => v.category).sum ≤ 8) {st0 : List Value} (hs0 : st0 = As.reverse ++ .ref (g.1 k) :: st) (hd : decode cc pc = .ok (.invokevirtual index, 3)) (kk : ∀ r : dk_S, dk_J p l e R s m args below meth c g nL qa (pc + 3) lv (st) r (f r) K) : dk_J p l e R s m args below meth c g nL qa pc lv st0 S (o2.bind f) K := dj_callV C hw hc ht hk hM hR hn hst hs0 hd kk
theorem dj_callSv (C : dk_C p l e R s m args below meth c g cc own nL ret) {index fr2 lo2 nL2 n : Nat} {y : MethodName} {cc2 : ByteArray} {ret2 : Option FieldType} {As : List Value} {o2 : Option (dk_S)} {f : dk_S → Option β} (hw : dk_WS own index y cc2 nL2 ret2 n) (hM : dk_M l g y cc2 nL2 ret2 fr2 lo2 As S o2 dk_qv) (hR : fr2 + 1 ≤ R.frames ∧ 8 + (nL2 + 11) + lo2 ≤ R.locals) (hn : As.length = n) (hst : (st.map fun v => v.category).sum ≤ 8) {st0 : List Value} (hs0 : st0 = As.reverse ++ st) (hd : decode cc pc = .ok (.invokestatic index, 3)) (kk : ∀ r : dk_S, dk_J p l e R s m args below meth c g nL qa (pc + 3) lv (st) r (f r) K) : dk_J p l e R s m args below meth c g nL qa pc lv st0 S (o2.bind f) K := dj_callS C hw hM hR hn hst hs0 hd kk
theorem dj_callNv (C : dk_C p l e R s m args below meth c g cc own nL ret) {index fr2 lo2 nL2 n : Nat} {y : MethodName} {cc2 : ByteArray} {ret2 : Option FieldType} {As : List Value} {o2 : Option (dk_S)} {f : dk_S → Option β} (hw : dk_WN own index y cc2 nL2 ret2 n) (hM : dk_M l g y cc2 nL2 ret2 fr2 lo2 As S o2 dk_qv) (hR : fr2 + 1 ≤ R.frames ∧ 8 + (nL2 + 11) + lo2 ≤ R.locals) (hn : As.length = n) (hst : (st.map fun v => v.category).sum ≤ 8) {st0 : List Value} (hs0 : st0 = As.reverse ++ st) (hd : decode cc pc = .ok (.invokestatic index, 3)) (kk : ∀ r : dk_S, dk_J p l e R s m args below meth c g nL qa (pc + 3) lv (st) r (f r) K) : dk_J p l e R s m args below meth c g nL qa pc lv st0 S (o2.bind f) K := dj_callN C hw hM hR hn hst hs0 hd kk
theorem dj_zretg (C : dk_C p l e R s m args below meth c g cc own nL (some .boolean)) {v : Int32} (hd : decode cc pc = .ok (.ireturn, 1)) : dk_J p l e R s m args below meth c g nL dk_qi pc lv [.int v] S (dk_gd (decide (v = 0 ∨ v = 1)) (some (v, S))) some := dj_gd fun hv => dj_zret C (by rcases of_decide_eq_true hv with rfl | rfl <;> rfl) hd
/-- System.arraycopy over rows of ints -/
def dk_cpok (sp dp n : Int32) (n0 n1 : Nat) : Bool := decide (¬ sp < 0 ∧ ¬ dp < 0 ∧ ¬ n < 0 ∧ sp.toNatClampNeg + n.toNatClampNeg ≤ n0 ∧ dp.toNatClampNeg + n.toNatClampNeg ≤ n1)
theorem dj_copy (C : dk_C p l e R s m args below meth c g cc own nL ret) {index k0 k1 n0 n1 : Nat} {sp dp n : Int32} {f : dk_S → Option β} (hw : Cond.methodLink own index arraycopyName ∈ dk_tb) (h0 : dk_kd k0 = 1000 + n0) (hn0 : n0 < 1000) (h1 : dk_kd k1 = 1000 + n1) (hn1 : n1 < 1000) (hfr : 1 ≤ R.frames) (hlo : (st.map fun v => v.category).sum + (nativeFrameWords "java/lang/System" "arraycopy" 5 + 11) ≤ R.locals) (hd : decode cc pc = .ok (.invokestatic index, 3)) (kk : ∀ S1, dk_J p l e R s m args below meth c g nL qa (pc + 3) lv st S1 (f S1) K) : dk_J p l e R s m args below meth c g nL qa pc lv (.int n :: .int dp :: .ref (g.1 k1) :: .int sp :: .ref (g.1 k0) :: st) S (dk_gd (dk_cpok sp dp n n0 n1) (dk_lt (dk_sr S k1 (va_cpy (S.1 k0) (S.1 k1) sp.toNatClampNeg dp.toNatClampNeg n.toNatClampNeg)) f)) K := dj_gd fun hi out ho H locs ls hP hS hl => by
  obtain ⟨a1, a2, a3, a4, a5⟩ := of_decide_eq_true hi
  refine va_copyi (A := dk_A g) C.1 C.2.1 (C.2.2.1.trans hl.1.symm) C.2.2.2.1 (C.2.2.2.2.1 _ hw) (C.2.2.2.2.1 _ (dk_m2 114 rfl rfl)) (C.2.2.2.2.1 _ (dk_m2 113 rfl rfl)) (C.2.2.2.2.1 _ (dk_m1 12 rfl rfl)) C.2.2.2.2.2.2.2.2.2 hP (dk_D C.2.2.2.2.2.2.2.1 S) hS k0 k1 0 0 (dk_ari h0 hn0) (dk_ari h1 hn1) rfl rfl rfl a1 a2 a3 a4 a5 (fun _ _ => rfl) hfr hlo hd (fun H1 locs1 hP1 hD1 hS1 => ?_)
  rw [dk_sti h1 hn1] at hP1
  exact kk _ out ho H1 locs1 ls hP1 hS1 hl
end dkmore
theorem dz_0 : dk_kd 0 = 8 := rfl
theorem dz_1 : dk_kd 1 = 50 := rfl
theorem dz_2 : dk_kd 2 = 51 := rfl
theorem dz_3 : dk_kd 3 = 52 := rfl
theorem dz_4 : dk_kd 4 = 53 := rfl
theorem dz_5 : dk_kd 5 = 0 := rfl
theorem dz_6 : dk_kd 6 = 1 := rfl
theorem dz_7 : dk_kd 7 = 1006 := rfl
theorem dz_8 : dk_kd 8 = 3 := rfl
theorem dz_9 : dk_kd 9 = 1100 := rfl
theorem dz_10 : dk_kd 10 = 54 := rfl
theorem dz_11 : dk_kd 11 = 4 := rfl
theorem dz_12 : dk_kd 12 = 1 := rfl
theorem dz_13 : dk_kd 13 = 1006 := rfl
theorem dz_14 : dk_kd 14 = 3 := rfl
theorem dz_15 : dk_kd 15 = 1100 := rfl
theorem dz_16 : dk_kd 16 = 7 := rfl
theorem dz_17 : dk_kd 17 = 0 := rfl
theorem dz_18 : dk_kd 18 = 1 := rfl
theorem dz_19 : dk_kd 19 = 1006 := rfl
theorem dz_20 : dk_kd 20 = 3 := rfl
theorem dz_21 : dk_kd 21 = 1100 := rfl
theorem dz_22 : dk_kd 22 = 1401 := rfl
theorem dz_23 : dk_kd 23 = 4200 := rfl
theorem dz_24 : dk_kd 24 = 0 := rfl
theorem dz_25 : dk_kd 25 = 1 := rfl
theorem dz_26 : dk_kd 26 = 1006 := rfl
theorem dz_27 : dk_kd 27 = 3 := rfl
theorem dz_28 : dk_kd 28 = 1100 := rfl
theorem dz_29 : dk_kd 29 = 2 := rfl
theorem dz_30 : dk_kd 30 = 1006 := rfl
theorem dz_31 : dk_kd 31 = 5 := rfl
theorem dz_32 : dk_kd 32 = 1060 := rfl
theorem dz_33 : dk_kd 33 = 5 := rfl
theorem dz_34 : dk_kd 34 = 1060 := rfl
theorem dz_35 : dk_kd 35 = 5 := rfl
theorem dz_36 : dk_kd 36 = 1060 := rfl
theorem dz_37 : dk_kd 37 = 5 := rfl
theorem dz_38 : dk_kd 38 = 1060 := rfl
theorem dz_39 : dk_kd 39 = 5 := rfl
theorem dz_40 : dk_kd 40 = 1060 := rfl
theorem dz_41 : dk_kd 41 = 5 := rfl
theorem dz_42 : dk_kd 42 = 1060 := rfl
theorem dz_43 : dk_kd 43 = 6 := rfl
theorem dz_44 : dk_kd 44 = 2080 := rfl
theorem dz_45 : dk_kd 45 = 6 := rfl
theorem dz_46 : dk_kd 46 = 2080 := rfl
theorem dz_47 : dk_kd 47 = 6 := rfl
theorem dz_48 : dk_kd 48 = 2080 := rfl
theorem dz_49 : dk_kd 49 = 6 := rfl
theorem dz_50 : dk_kd 50 = 2080 := rfl
theorem dz_51 : dk_kd 51 = 1 := rfl
theorem dz_52 : dk_kd 52 = 1006 := rfl
theorem dz_53 : dk_kd 53 = 1 := rfl
theorem dz_54 : dk_kd 54 = 1006 := rfl
theorem dz_55 : dk_kd 55 = 1 := rfl
theorem dz_56 : dk_kd 56 = 1006 := rfl
theorem dz_57 : dk_kd 57 = 1 := rfl
theorem dz_58 : dk_kd 58 = 1006 := rfl
theorem dz_59 : dk_kd 59 = 3 := rfl
theorem dz_60 : dk_kd 60 = 1100 := rfl
theorem dz_61 : dk_kd 61 = 3 := rfl
theorem dz_62 : dk_kd 62 = 1100 := rfl
theorem dz_63 : dk_kd 63 = 3 := rfl
theorem dz_64 : dk_kd 64 = 1100 := rfl
theorem dz_65 : dk_kd 65 = 3 := rfl
theorem dz_66 : dk_kd 66 = 1100 := rfl
theorem dz_67 : dk_kd 67 = 0 := rfl
theorem dz_68 : dk_kd 68 = 1 := rfl
theorem dz_69 : dk_kd 69 = 1006 := rfl
theorem dz_70 : dk_kd 70 = 3 := rfl
theorem dz_71 : dk_kd 71 = 1100 := rfl
theorem dz_72 : dk_kd 72 = 0 := rfl
theorem dz_73 : dk_kd 73 = 1 := rfl
theorem dz_74 : dk_kd 74 = 1006 := rfl
theorem dz_75 : dk_kd 75 = 3 := rfl
theorem dz_76 : dk_kd 76 = 1100 := rfl
theorem dz_77 : dk_kd 77 = 0 := rfl
theorem dz_78 : dk_kd 78 = 1 := rfl
theorem dz_79 : dk_kd 79 = 1006 := rfl
theorem dz_80 : dk_kd 80 = 3 := rfl
theorem dz_81 : dk_kd 81 = 1100 := rfl
theorem dz_82 : dk_kd 82 = 9 := rfl
theorem dz_83 : dk_kd 83 = 1006 := rfl
theorem dz_84 : dk_kd 84 = 1006 := rfl
theorem dz_85 : dk_kd 85 = 1360 := rfl
theorem dz_86 : dk_kd 86 = 1060 := rfl
theorem dz_87 : dk_kd 87 = 1004 := rfl
theorem dz_88 : dk_kd 88 = 2320 := rfl
theorem dz_89 : dk_kd 89 = 3004 := rfl
theorem dz_90 : dk_kd 90 = 1028 := rfl
theorem dz_91 : dk_kd 91 = 3004 := rfl
theorem dz_92 : dk_kd 92 = 1404 := rfl
theorem dz_93 : dk_kd 93 = 1007 := rfl
theorem dz_94 : dk_kd 94 = 1101 := rfl
theorem dz_95 : dk_kd 95 = 1006 := rfl
theorem dz_96 : dk_kd 96 = 1002 := rfl
theorem dz_97 : dk_kd 97 = 3004 := rfl
theorem dz_98 : dk_kd 98 = 1456 := rfl
theorem dz_99 : dk_kd 99 = 1400 := rfl
theorem dz_100 : dk_kd 100 = 1401 := rfl
theorem dz_101 : dk_kd 101 = 3400 := rfl
theorem dz_102 : dk_kd 102 = 1401 := rfl
