/-! THE STATE: cells are numbered 0 .. 102 (0: the DuckWalk and what it made; 82: the model and what it made); what a cell holds is S.1 cell slot (ints, bytes, booleans) or S.2 cell slot (longs); references never change -/
abbrev dk_S : Type := (Nat → Nat → Int32) × (Nat → Nat → Int64)
def dk_sr (S : dk_S) (k : Nat) (f : Nat → Int32) : dk_S := (fun a => if a = k then f else S.1 a, S.2)
def dk_si (S : dk_S) (k j : Nat) (v : Int32) : dk_S := dk_sr S k (upd (S.1 k) j v)
def dk_sq (S : dk_S) (k : Nat) (f : Nat → Int64) : dk_S := (S.1, fun a => if a = k then f else S.2 a)
def dk_sl (S : dk_S) (k j : Nat) (v : Int64) : dk_S := dk_sq S k (vp_updL (S.2 k) j v)
/-- where the cells are; the classes' numbers and slots; the array classes' numbers -/
abbrev dk_G : Type := (Nat → Nat) × va_G × (Nat → ClassId)
/-- the kinds: 0 .. 9 objects of the class of that number; 50 .. 54 rows of references; 1000 + n: n ints, 2000 + n: n bytes, 3000 + n: n booleans, 4000 + n: n longs -/
def dk_sh : List Nat := [8, 50, 51, 52, 53, 0, 1, 1006, 3, 1100, 54, 4, 1, 1006, 3, 1100, 7, 0, 1, 1006, 3, 1100, 1401, 4200, 0, 1, 1006, 3, 1100, 2, 1006, 5, 1060, 5, 1060, 5, 1060, 5, 1060, 5, 1060, 5, 1060, 6, 2080, 6, 2080, 6, 2080, 6, 2080, 1, 1006, 1, 1006, 1, 1006, 1, 1006, 3, 1100, 3, 1100, 3, 1100, 3, 1100, 0, 1, 1006, 3, 1100, 0, 1, 1006, 3, 1100, 0, 1, 1006, 3, 1100, 9, 1006, 1006, 1360, 1060, 1004, 2320, 3004, 1028, 3004, 1404, 1007, 1101, 1006, 1002, 3004, 1456, 1400, 1401, 3400, 1401]
def dk_kd (k : Nat) : Nat := dk_sh.getD k 99999
/-- an object's fields: 0 an int, 1 a long, 2 + d the cell d behind its own -/
def dk_fts : List (List Nat) := [[3, 5, 0, 0, 0, 0, 0, 0, 0, 0], [3, 0, 0], [0, 0, 0, 0], [3, 0, 0], [3, 5, 0, 0], [3, 0], [3, 0], [3, 0, 0, 0, 0, 8, 9, 1], [3, 4, 5, 6, 7, 12, 13, 18, 26, 31, 32, 0, 0, 1, 1], [0, 3, 0, 1, 1, 4, 5, 6, 7, 8, 9, 10, 11, 12, 0, 0, 0, 13, 14, 15, 0, 0, 16, 0, 0, 0, 0, 0, 0, 0, 17, 18, 19, 20, 0, 0, 0, 0, 21, 22, 1]]
def dk_fl (t : Nat) : List Nat := dk_fts.getD t []
def dk_fv (g : dk_G) (k : Nat) (f : Nat → Int32) (h : Nat → Int64) (t j : Nat) : Value := match t with
  | 0 => .int (f j)
  | 1 => .long (h j)
  | r + 2 => .ref (g.1 (k + r))
def dk_fs (g : dk_G) (k : Nat) (f : Nat → Int32) (h : Nat → Int64) (ts : List Nat) : List Value := ts.mapIdx (fun j t => dk_fv g k f h t j)
def dk_rfs (g : dk_G) (b d : Nat) : Nat → Option Nat := fun i => some (g.1 (b + d * i))
def dk_ce (g : dk_G) (k : Nat) (f : Nat → Int32) (h : Nat → Int64) (t : Nat) : va_E :=
  if t < 10 then .inr (t, dk_fs g k f h (dk_fl t))
  else if t = 50 then .inl (g.2.2 4, 6, .inr (.inr (.inr (.inr (dk_rfs g 31 2)))))
  else if t = 51 then .inl (g.2.2 5, 4, .inr (.inr (.inr (.inr (dk_rfs g 43 2)))))
  else if t = 52 then .inl (g.2.2 6, 4, .inr (.inr (.inr (.inr (dk_rfs g 51 2)))))
  else if t = 53 then .inl (g.2.2 7, 4, .inr (.inr (.inr (.inr (dk_rfs g 59 2)))))
  else if t = 54 then .inl (g.2.2 8, 3, .inr (.inr (.inr (.inr (dk_rfs g 67 5)))))
  else if t < 2000 then .inl (g.2.2 0, t - 1000, .inl f)
  else if t < 3000 then .inl (g.2.2 1, t - 2000, .inl f)
  else if t < 4000 then .inl (g.2.2 2, t - 3000, .inl f)
  else .inl (g.2.2 3, t - 4000, .inr (.inl h))
def dk_cel (g : dk_G) (k : Nat) (f : Nat → Int32) (h : Nat → Int64) : va_E := dk_ce g k f h (dk_kd k)
def dk_wd (g : dk_G) (S : dk_S) : va_W := (List.range 103).map (fun k => (g.1 k, dk_cel g k (S.1 k) (S.2 k)))
def dk_tys (g : dk_G) : List (ClassId × FieldType) := [(g.2.2 0, .int), (g.2.2 1, .byte), (g.2.2 2, .boolean), (g.2.2 3, .long), (g.2.2 4, .object "DuckWalk$Row"), (g.2.2 5, .object "DuckWalk$Script"), (g.2.2 6, .object "DuckWalk$Duck"), (g.2.2 7, .object "DuckWalk$Plank"), (g.2.2 8, .object "DuckWalk$Course")]
def dk_inj (g : dk_G) : Prop := ∀ i j, i < 103 → j < 103 → g.1 i = g.1 j → i = j
def dk_A (g : dk_G) : Nat → Prop := fun q => ∃ k, k < 103 ∧ q = g.1 k
theorem dk_kd_lt {k t : Nat} (h : dk_kd k = t) (ht : t < 99999) : k < 103 := by
  rcases Nat.lt_or_ge k 103 with q | q
  · exact q
  · have : dk_kd k = 99999 := by
      unfold dk_kd
      rw [List.getD_eq_getElem?_getD, List.getElem?_eq_none (by simpa [dk_sh] using q)]
      rfl
    omega
theorem dk_at {g : dk_G} {S : dk_S} {k : Nat} (hk : k < 103) : (dk_wd g S)[k]? = some (g.1 k, dk_cel g k (S.1 k) (S.2 k)) := by
  simp [dk_wd, hk]
theorem dk_addr {g : dk_G} {S : dk_S} {k : Nat} {q : Nat × va_E} (h : (dk_wd g S)[k]? = some q) : k < 103 ∧ q.1 = g.1 k := by
  have hk : k < 103 := by
    have := (List.getElem?_eq_some_iff.mp h).1
    simpa [dk_wd] using this
  rw [dk_at hk] at h
  exact ⟨hk, by rw [← Option.some.inj h]⟩
theorem dk_D {g : dk_G} (hg : dk_inj g) (S : dk_S) : va_D (dk_A g) (dk_wd g S) := by
  refine ⟨fun i j p q hi hj e => ?_, fun k q hk => ?_⟩
  · obtain ⟨a1, a2⟩ := dk_addr hi
    obtain ⟨b1, b2⟩ := dk_addr hj
    exact hg i j a1 b1 (by rw [← a2, ← b2]; exact e)
  · obtain ⟨a1, a2⟩ := dk_addr hk
    exact ⟨k, a1, a2⟩
theorem dk_set {g : dk_G} {S : dk_S} {k : Nat} (hk : k < 103) {f : Nat → Int32} {h : Nat → Int64} {e : va_E} (he : dk_cel g k f h = e) : (dk_wd g S).set k (g.1 k, e) = dk_wd g (fun a => if a = k then f else S.1 a, fun a => if a = k then h else S.2 a) := by
  subst he
  apply List.ext_getElem?
  intro i
  by_cases hi : i = k
  · subst hi
    rw [dk_at hk, List.getElem?_set_self (by simpa [dk_wd] using hk)]
    simp
  · rw [List.getElem?_set_ne (fun h => hi h.symm)]
    simp only [dk_wd, List.getElem?_map]
    cases hr : (List.range 103)[i]? with
    | none => rfl
    | some n =>
      have : n = i := by
        have := List.getElem?_eq_some_iff.mp hr
        obtain ⟨h1, h2⟩ := this
        simpa using h2.symm
      subst this
      simp [hi]
theorem dk_set_r {g : dk_G} {S : dk_S} {k : Nat} (hk : k < 103) {f : Nat → Int32} {e : va_E} (he : dk_cel g k f (S.2 k) = e) : (dk_wd g S).set k (g.1 k, e) = dk_wd g (dk_sr S k f) := by
  rw [dk_set hk he]
  have : (fun a => if a = k then S.2 k else S.2 a) = S.2 := by
    funext a
    by_cases h : a = k
    · simp [h]
    · simp [h]
  rw [this]
  rfl
theorem dk_set_q {g : dk_G} {S : dk_S} {k : Nat} (hk : k < 103) {h : Nat → Int64} {e : va_E} (he : dk_cel g k (S.1 k) h = e) : (dk_wd g S).set k (g.1 k, e) = dk_wd g (dk_sq S k h) := by
  rw [dk_set hk he]
  have : (fun a => if a = k then S.1 k else S.1 a) = S.1 := by
    funext a
    by_cases h : a = k
    · simp [h]
    · simp [h]
  rw [this]
  rfl
/-! objects -/
theorem dk_obj {g : dk_G} {S : dk_S} {k t : Nat} (h : dk_kd k = t) (ht : t < 10) : (dk_wd g S)[k]? = some (g.1 k, .inr (t, dk_fs g k (S.1 k) (S.2 k) (dk_fl t))) := by
  rw [dk_at (dk_kd_lt h (by omega))]
  unfold dk_cel dk_ce
  rw [h, if_pos ht]
theorem dk_fs_get {g : dk_G} {k : Nat} {f : Nat → Int32} {h : Nat → Int64} {ts : List Nat} {j t : Nat} (hj : ts[j]? = some t) : (dk_fs g k f h ts)[j]? = some (dk_fv g k f h t j) := by
  simp [dk_fs, List.getElem?_mapIdx, hj]
theorem dk_fs_len {g : dk_G} {k : Nat} {f : Nat → Int32} {h : Nat → Int64} {ts : List Nat} : (dk_fs g k f h ts).length = ts.length := by simp [dk_fs]
theorem dk_fs_si {g : dk_G} {k : Nat} {f : Nat → Int32} {h : Nat → Int64} {ts : List Nat} {j : Nat} {v : Int32} (hj : ts[j]? = some 0) : dk_fs g k (upd f j v) h ts = (dk_fs g k f h ts).set j (.int v) := by
  apply List.ext_getElem?
  intro i
  have hjl : j < ts.length := (List.getElem?_eq_some_iff.mp hj).1
  by_cases hi : i = j
  · subst hi
    rw [List.getElem?_set_self (by rw [dk_fs_len]; exact hjl), dk_fs_get hj]
    simp [dk_fv, upd]
  · rw [List.getElem?_set_ne (fun h => hi h.symm)]
    simp only [dk_fs, List.getElem?_mapIdx]
    cases ht : ts[i]? with
    | none => rfl
    | some t =>
      simp only [Option.map_some]
      congr 1
      unfold dk_fv
      split
      · simp [upd, hi]
      · rfl
      · rfl
theorem dk_fs_sl {g : dk_G} {k : Nat} {f : Nat → Int32} {h : Nat → Int64} {ts : List Nat} {j : Nat} {v : Int64} (hj : ts[j]? = some 1) : dk_fs g k f (vp_updL h j v) ts = (dk_fs g k f h ts).set j (.long v) := by
  apply List.ext_getElem?
  intro i
  have hjl : j < ts.length := (List.getElem?_eq_some_iff.mp hj).1
  by_cases hi : i = j
  · subst hi
    rw [List.getElem?_set_self (by rw [dk_fs_len]; exact hjl), dk_fs_get hj]
    simp [dk_fv, vp_updL]
  · rw [List.getElem?_set_ne (fun h => hi h.symm)]
    simp only [dk_fs, List.getElem?_mapIdx]
    cases ht : ts[i]? with
    | none => rfl
    | some t =>
      simp only [Option.map_some]
      congr 1
      unfold dk_fv
      split
      · rfl
      · simp [vp_updL, hi]
      · rfl
theorem dk_put_i {g : dk_G} {S : dk_S} {k t j : Nat} {v : Int32} (h : dk_kd k = t) (ht : t < 10) (hj : (dk_fl t)[j]? = some 0) : (dk_wd g S).set k (g.1 k, .inr (t, (dk_fs g k (S.1 k) (S.2 k) (dk_fl t)).set j (.int v))) = dk_wd g (dk_si S k j v) := by
  refine dk_set_r (dk_kd_lt h (by omega)) ?_
  unfold dk_cel dk_ce
  rw [h, if_pos ht, dk_fs_si hj]
theorem dk_put_l {g : dk_G} {S : dk_S} {k t j : Nat} {v : Int64} (h : dk_kd k = t) (ht : t < 10) (hj : (dk_fl t)[j]? = some 1) : (dk_wd g S).set k (g.1 k, .inr (t, (dk_fs g k (S.1 k) (S.2 k) (dk_fl t)).set j (.long v))) = dk_wd g (dk_sl S k j v) := by
  refine dk_set_q (dk_kd_lt h (by omega)) ?_
  unfold dk_cel dk_ce
  rw [h, if_pos ht, dk_fs_sl hj]
/-! rows of numbers -/
theorem dk_ari {g : dk_G} {S : dk_S} {k n : Nat} (h : dk_kd k = 1000 + n) (hn : n < 1000) : (dk_wd g S)[k]? = some (g.1 k, .inl (g.2.2 0, n, .inl (S.1 k))) := by
  rw [dk_at (dk_kd_lt h (by omega))]
  unfold dk_cel dk_ce
  rw [h, if_neg (by omega), if_neg (by omega), if_neg (by omega), if_neg (by omega), if_neg (by omega), if_neg (by omega), if_pos (by omega), Nat.add_sub_cancel_left]
theorem dk_arb {g : dk_G} {S : dk_S} {k n : Nat} (h : dk_kd k = 2000 + n) (hn : n < 1000) : (dk_wd g S)[k]? = some (g.1 k, .inl (g.2.2 1, n, .inl (S.1 k))) := by
  rw [dk_at (dk_kd_lt h (by omega))]
  unfold dk_cel dk_ce
  rw [h, if_neg (by omega), if_neg (by omega), if_neg (by omega), if_neg (by omega), if_neg (by omega), if_neg (by omega), if_neg (by omega), if_pos (by omega), Nat.add_sub_cancel_left]
theorem dk_arz {g : dk_G} {S : dk_S} {k n : Nat} (h : dk_kd k = 3000 + n) (hn : n < 1000) : (dk_wd g S)[k]? = some (g.1 k, .inl (g.2.2 2, n, .inl (S.1 k))) := by
  rw [dk_at (dk_kd_lt h (by omega))]
  unfold dk_cel dk_ce
  rw [h, if_neg (by omega), if_neg (by omega), if_neg (by omega), if_neg (by omega), if_neg (by omega), if_neg (by omega), if_neg (by omega), if_neg (by omega), if_pos (by omega), Nat.add_sub_cancel_left]
theorem dk_arl {g : dk_G} {S : dk_S} {k n : Nat} (h : dk_kd k = 4000 + n) (hn : n < 1000) : (dk_wd g S)[k]? = some (g.1 k, .inl (g.2.2 3, n, .inr (.inl (S.2 k)))) := by
  rw [dk_at (dk_kd_lt h (by omega))]
  unfold dk_cel dk_ce
  rw [h, if_neg (by omega), if_neg (by omega), if_neg (by omega), if_neg (by omega), if_neg (by omega), if_neg (by omega), if_neg (by omega), if_neg (by omega), if_neg (by omega), Nat.add_sub_cancel_left]
theorem dk_sti {g : dk_G} {S : dk_S} {k n : Nat} {f : Nat → Int32} (h : dk_kd k = 1000 + n) (hn : n < 1000) : (dk_wd g S).set k (g.1 k, .inl (g.2.2 0, n, .inl f)) = dk_wd g (dk_sr S k f) := by
  refine dk_set_r (dk_kd_lt h (by omega)) ?_
  unfold dk_cel dk_ce
  rw [h, if_neg (by omega), if_neg (by omega), if_neg (by omega), if_neg (by omega), if_neg (by omega), if_neg (by omega), if_pos (by omega), Nat.add_sub_cancel_left]
theorem dk_stb {g : dk_G} {S : dk_S} {k n : Nat} {f : Nat → Int32} (h : dk_kd k = 2000 + n) (hn : n < 1000) : (dk_wd g S).set k (g.1 k, .inl (g.2.2 1, n, .inl f)) = dk_wd g (dk_sr S k f) := by
  refine dk_set_r (dk_kd_lt h (by omega)) ?_
  unfold dk_cel dk_ce
  rw [h, if_neg (by omega), if_neg (by omega), if_neg (by omega), if_neg (by omega), if_neg (by omega), if_neg (by omega), if_neg (by omega), if_pos (by omega), Nat.add_sub_cancel_left]
theorem dk_stz {g : dk_G} {S : dk_S} {k n : Nat} {f : Nat → Int32} (h : dk_kd k = 3000 + n) (hn : n < 1000) : (dk_wd g S).set k (g.1 k, .inl (g.2.2 2, n, .inl f)) = dk_wd g (dk_sr S k f) := by
  refine dk_set_r (dk_kd_lt h (by omega)) ?_
  unfold dk_cel dk_ce
  rw [h, if_neg (by omega), if_neg (by omega), if_neg (by omega), if_neg (by omega), if_neg (by omega), if_neg (by omega), if_neg (by omega), if_neg (by omega), if_pos (by omega), Nat.add_sub_cancel_left]
theorem dk_stl {g : dk_G} {S : dk_S} {k n : Nat} {f : Nat → Int64} (h : dk_kd k = 4000 + n) (hn : n < 1000) : (dk_wd g S).set k (g.1 k, .inl (g.2.2 3, n, .inr (.inl f))) = dk_wd g (dk_sq S k f) := by
  refine dk_set_q (dk_kd_lt h (by omega)) ?_
  unfold dk_cel dk_ce
  rw [h, if_neg (by omega), if_neg (by omega), if_neg (by omega), if_neg (by omega), if_neg (by omega), if_neg (by omega), if_neg (by omega), if_neg (by omega), if_neg (by omega), Nat.add_sub_cancel_left]
