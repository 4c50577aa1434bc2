/-! what becomes of a walker: kind, round trip, least and greatest pace -/
noncomputable def p_400 : Nat := Classical.choose (⟨400, rfl⟩ : ∃ n : Nat, n = 400)
theorem p_400_eq : p_400 = 400 := Classical.choose_spec (⟨400, rfl⟩ : ∃ n : Nat, n = 400)
noncomputable def p_res (P : p_P) (p : Int32) : p_Z := p_go P p_400 0 (fun _ => none) (fun _ => p) p 0 0
theorem p_res_eq (P : p_P) (p : Int32) : p_go P 400 0 (fun _ => none) (fun _ => p) p 0 0 = p_res P p := by unfold p_res; rw [p_400_eq]
def p_kd (lim lo hi : Int32) (tr : Nat) : Int32 := if lo = hi then (if lo ≤ lim / 2 then 1 else 6) else if 4 < tr then 3 else if tr = 4 then 7 else 2
/-- kind, trip, least, greatest -/
def p_K (P : p_P) (z : p_Z) : Int32 × Nat × Int32 × Int32 := if z.2.2.2.2.2 = 0 then match z.2.1 (p_ix z.2.2.2.1 z.2.2.2.2.1) with
  | none => (3, 0, 0, 0)
  | some m0 => (p_kd P.2.2.2.2 (p_lo z.2.2.1 (z.1 - m0) m0 z.2.2.2.1) (p_hi z.2.2.1 (z.1 - m0) m0 z.2.2.2.1) (z.1 - m0), z.1 - m0, p_lo z.2.2.1 (z.1 - m0) m0 z.2.2.2.1, p_hi z.2.2.1 (z.1 - m0) m0 z.2.2.2.1)
  else (if z.2.2.2.2.2 = 1 then 4 else 5, 0, 0, 0)
theorem p_I_0 {a : Nat} (ha : a ≤ 99) : p_I 0 (fun _ => none) (fun _ => nI a) (nI a) 0 0 := ⟨fun _ => ⟨⟨a, ha, rfl⟩, Or.inl rfl⟩, Or.inl rfl, rfl, fun j m h => by cases h⟩
theorem p_mn_self (a : Int32) : p_mn a a = a := by unfold p_mn; by_cases h : a < a <;> simp [h]
theorem p_mx_self (a : Int32) : p_mx a a = a := by unfold p_mx; by_cases h : a < a <;> simp [h]
theorem nI_sub {a b : Nat} (h : b ≤ a) : nI a - nI b = nI (a - b) := by
  have : nI a = nI (a - b) + nI b := by rw [nI_add]; congr 1; omega
  rw [this, Int32.add_sub_cancel]
/-- the end of a round trip, in the class -/
noncomputable def c_kx (t5 : dk_S) : Option dk_S := if (t5.1 16 3) = (t5.1 16 4) then (fX1_limit 18 t5).bind (fun r11 => if (t5.1 16 3) ≤ (r11.1 / 2) then dk_lt (dk_si r11.2 16 1 1) (fun S13 => some S13) else dk_lt (dk_si r11.2 16 1 6) (fun S14 => some S14)) else if 4 < (t5.1 16 2) then some t5 else if (t5.1 16 2) = 4 then dk_lt (dk_si t5 16 1 7) (fun S10 => some S10) else dk_lt (dk_si t5 16 1 2) (fun S9 => some S9)
theorem q_kx {t : dk_S} {tr : Nat} (h2 : t.1 16 2 = nI tr) (htr : tr ≤ 400) (h1 : t.1 16 1 = 3) : ∃ T, c_kx t = some T ∧ T.1 16 1 = p_kd (20 + 8 * t.1 19 0) (t.1 16 3) (t.1 16 4) tr ∧ (∀ j, ¬ j = 1 → T.1 16 j = t.1 16 j) ∧ (∀ a, ¬ a = 16 → T.1 a = t.1 a) ∧ T.2 = t.2 := by
  unfold c_kx p_kd
  rw [q_limit, h2]
  simp only [some_bind', dk_lt_eq]
  have hput : ∀ v, (∃ T, some (dk_si t 16 1 v) = some T ∧ T.1 16 1 = v ∧ (∀ j, ¬ j = 1 → T.1 16 j = t.1 16 j) ∧ (∀ a, ¬ a = 16 → T.1 a = t.1 a) ∧ T.2 = t.2) := fun v => ⟨_, rfl, by rw [dk_si_eq, dk_sr_same, upd_same], fun j hj => by rw [dk_si_eq, dk_sr_same, upd_ne _ _ hj], fun a ha => by rw [dk_si_eq, dk_sr_ne _ _ ha], rfl⟩
  by_cases e : t.1 16 3 = t.1 16 4
  · rw [if_pos e, if_pos e]
    by_cases e2 : t.1 16 3 ≤ (20 + 8 * t.1 19 0) / 2
    · rw [if_pos e2, if_pos e2]; exact hput 1
    · rw [if_neg e2, if_neg e2]; exact hput 6
  · rw [if_neg e, if_neg e]
    by_cases e3 : 4 < tr
    · rw [if_pos e3, if_pos (show (4 : Int32) < nI tr from (nI_ltI (a := 4) (by omega) (by omega)).mpr e3)]
      exact ⟨_, rfl, h1, fun _ _ => rfl, fun _ _ => rfl, rfl⟩
    · rw [if_neg e3, if_neg (show ¬ (4 : Int32) < nI tr from fun q => e3 ((nI_ltI (a := 4) (by omega) (by omega)).mp q))]
      by_cases e4 : tr = 4
      · rw [if_pos e4, if_pos (by rw [e4]; rfl)]; exact hput 7
      · rw [if_neg e4, if_neg (show ¬ nI tr = (4 : Int32) from fun q => e4 ((nI_eq (a := tr) (b := 4) (by omega) (by omega)).mp q))]; exact hput 2
theorem q_closeTrip {S : dk_S} {m0 N : Nat} (hm : m0 < N) (hN : N ≤ 400) (h1 : S.1 16 1 = 3) : ∃ T, fX7_closeTrip (nI m0) (nI N) S = some T ∧ T.1 16 1 = p_kd (20 + 8 * S.1 19 0) (p_lo (S.1 22) (N - m0) m0 (S.1 22 m0)) (p_hi (S.1 22) (N - m0) m0 (S.1 22 m0)) (N - m0) ∧ T.1 16 2 = nI (N - m0) ∧ T.1 16 3 = p_lo (S.1 22) (N - m0) m0 (S.1 22 m0) ∧ T.1 16 4 = p_hi (S.1 22) (N - m0) m0 (S.1 22 m0) ∧ (∀ a, ¬ a = 16 → T.1 a = S.1 a) ∧ T.2 = S.2 := by
  unfold fX7_closeTrip
  rw [dI_in (by omega : m0 < 401) (by omega), nI_clamp (by omega), nI_sub (by omega)]
  simp only [dk_gd_t, dk_lt_eq, nI_1, dk_si_eq, dk_sr_sr, dk_sr_same, dk_sr_ne _ _ (by omega : ¬ 22 = 16)]
  have hrow : upd (upd (upd (S.1 16) 2 (nI (N - m0))) 3 (S.1 22 m0)) 4 (S.1 22 m0) = t_row (upd (S.1 16) 2 (nI (N - m0))) (S.1 22 m0) (S.1 22 m0) := by
    funext j
    unfold t_row
    rw [upd_at, upd_at _ 3]
    by_cases h3 : j = 3
    · subst h3; rfl
    · by_cases h4 : j = 4
      · subst h4; rfl
      · rw [if_neg h4, if_neg h3, if_neg h3, if_neg h4]
  rw [hrow]
  have hc := e_close N hN c_kx dk_FU (m0 + 1) (upd (S.1 16) 2 (nI (N - m0))) (S.1 22 m0) (S.1 22 m0) (dk_sr S 16 (t_row (upd (S.1 16) 2 (nI (N - m0))) (S.1 22 m0) (S.1 22 m0))) (dk_sr_same _ _ _) (by omega) (by have := dk_FU_ge; omega)
  rw [dk_sr_sr, dk_sr_ne _ _ (by omega : ¬ 22 = 16)] at hc
  have hlo : p_lo (S.1 22) (N - m0) m0 (S.1 22 m0) = p_lo (S.1 22) (N - (m0 + 1)) (m0 + 1) (S.1 22 m0) := by
    rw [show N - m0 = (N - (m0 + 1)) + 1 by omega, p_lo, p_mn_self]
  have hhi : p_hi (S.1 22) (N - m0) m0 (S.1 22 m0) = p_hi (S.1 22) (N - (m0 + 1)) (m0 + 1) (S.1 22 m0) := by
    rw [show N - m0 = (N - (m0 + 1)) + 1 by omega, p_hi, p_mx_self]
  rw [hlo, hhi]
  generalize hS' : dk_sr S 16 (t_row (upd (S.1 16) 2 (nI (N - m0))) (p_lo (S.1 22) (N - (m0 + 1)) (m0 + 1) (S.1 22 m0)) (p_hi (S.1 22) (N - (m0 + 1)) (m0 + 1) (S.1 22 m0))) = S' at hc
  have e16 : S'.1 16 = t_row (upd (S.1 16) 2 (nI (N - m0))) (p_lo (S.1 22) (N - (m0 + 1)) (m0 + 1) (S.1 22 m0)) (p_hi (S.1 22) (N - (m0 + 1)) (m0 + 1) (S.1 22 m0)) := by rw [← hS']; exact dk_sr_same _ _ _
  have eo : ∀ a, ¬ a = 16 → S'.1 a = S.1 a := fun a ha => by rw [← hS']; exact dk_sr_ne _ _ ha
  have e2 : S'.2 = S.2 := by rw [← hS']; rfl
  obtain ⟨T, g1, g2, g3, g4, g5⟩ := q_kx (t := S') (tr := N - m0) (by rw [e16]; rfl) (by omega) (by rw [e16]; exact h1)
  refine ⟨T, ?_, ?_, ?_, ?_, ?_, ?_, ?_⟩
  · exact hc.trans g1
  · rw [g2, eo 19 (by omega), e16, t_row_3, t_row_4]
  · rw [g3 2 (by omega), e16]; rfl
  · rw [g3 3 (by omega), e16]; rfl
  · rw [g3 4 (by omega), e16]; rfl
  · intro a ha; rw [g4 a ha, eo a ha]
  · rw [g5, e2]
/-- A GOING, in the class -/
theorem q_find {S : dk_S} {a : Nat} (sl : Int32) (ha : a ≤ 99) (hb : ∀ j, j < 100 → S.1 21 j = 0) (hl : (20 + 8 * S.1 19 0).toInt ≤ 99) (hs0 : 0 ≤ (S.2 16 7).toInt) (hs1 : (S.2 16 7).toInt ≤ 9000000000) (hs2 : ∀ j, j < 200 → (S.2 23 j).toInt ≤ (S.2 16 7).toInt + 400) :
    ∃ (z : p_Z) (T : dk_S), z = p_res (c_P (S.1 19) sl (S.1 20 1)) (nI a) ∧ fX7_find sl (nI a) S = some T ∧ T.1 16 1 = (p_K (c_P (S.1 19) sl (S.1 20 1)) z).1 ∧ T.1 16 2 = nI (p_K (c_P (S.1 19) sl (S.1 20 1)) z).2.1 ∧ (∀ m0, z.2.2.2.2.2 = 0 → z.2.1 (p_ix z.2.2.2.1 z.2.2.2.2.1) = some m0 → T.1 16 3 = (p_K (c_P (S.1 19) sl (S.1 20 1)) z).2.2.1 ∧ T.1 16 4 = (p_K (c_P (S.1 19) sl (S.1 20 1)) z).2.2.2) ∧ (¬ z.2.2.2.2.2 = 0 → T.1 17 6 = nI z.1) ∧ (∀ q, ¬ q = 16 → ¬ q = 17 → ¬ q = 22 → T.1 q = S.1 q) ∧ (∀ q, ¬ q = 16 → ¬ q = 23 → T.2 q = S.2 q) ∧ (T.2 16 7).toInt = (S.2 16 7).toInt + 401 ∧ (∀ j, j < 200 → (T.2 23 j).toInt ≤ (T.2 16 7).toInt + 400) := by
  unfold fX7_find
  rw [q_begin, some_bind']
  simp only [dk_lt_eq]
  generalize hS4 : dk_si (dk_si (dk_sl (dk_sr S 17 (c_row (upd (S.1 17) 3 sl) (nI a) 0 (nI 0) 0 0 0)) 16 7 ((dk_sr S 17 (c_row (upd (S.1 17) 3 sl) (nI a) 0 (nI 0) 0 0 0)).2 16 7 + 401)) 16 1 3) 16 2 0 = S4
  have e16 : S4.1 16 = upd (upd (S.1 16) 1 3) 2 0 := by
    rw [← hS4]
    simp (disch := omega) only [dk_si_eq, dk_sr_sr, dk_sr_same, dk_sl_eq, dk_sq_1, dk_sr_ne]
  have e17 : S4.1 17 = c_row (upd (S.1 17) 3 sl) (nI a) 0 (nI 0) 0 0 0 := by
    rw [← hS4]
    simp (disch := omega) only [dk_si_eq, dk_sr_sr, dk_sr_same, dk_sl_eq, dk_sq_1, dk_sr_ne]
  have eo : ∀ q, ¬ q = 16 → ¬ q = 17 → S4.1 q = S.1 q := fun q h1 h2 => by
    rw [← hS4]
    simp only [dk_si_eq, dk_sr_sr, dk_sl_eq]
    rw [dk_sr_ne _ _ h1, dk_sq_1, dk_sr_ne _ _ h2]
  have e2o : ∀ q, ¬ q = 16 → S4.2 q = S.2 q := fun q h1 => by
    rw [← hS4]
    simp only [dk_si_eq, dk_sr_2, dk_sl_eq]
    rw [dk_sq_2, if_neg h1, dk_sr_2]
  have e2s : (S4.2 16 7).toInt = (S.2 16 7).toInt + 401 := by
    have : S4.2 16 7 = S.2 16 7 + 401 := by
      rw [← hS4]
      simp only [dk_si_eq, dk_sr_2, dk_sl_eq]
      rw [dk_sq_2, if_pos rfl]
      rfl
    rw [this, Int64.toInt_add]
    have h4 : (401 : Int64).toInt = 401 := rfl
    rw [h4]
    exact Int.bmod_eq_of_le (by omega) (by omega)
  obtain ⟨m, hm⟩ : ∃ m, dk_FU = m + 1 := ⟨dk_FU - 1, by have := dk_FU_ge; omega⟩
  have hm2 : 401 ≤ m := by have := dk_FU_ge; omega
  rw [hm, q_findL, if_neg (by decide), if_pos (by decide)]
  have hc3 : (upd (S.1 17) 3 sl) 3 = sl := upd_same _ _ _
  have hP : c_P (S4.1 19) ((upd (S.1 17) 3 sl) 3) (S4.1 20 1) = c_P (S.1 19) sl (S.1 20 1) := by rw [hc3, eo 19 (by omega) (by omega), eo 20 (by omega) (by omega)]
  obtain ⟨z, T2, hz, hz4, hzI, hzR, hzc⟩ := e_find (S0 := S4) (c := upd (S.1 17) 3 sl) (fun j hj => by rw [eo 21 (by omega) (by omega)]; exact hb j hj) (by rw [hP]; exact hl) (by omega) (by omega)
    (fun t5 : dk_S => if (t5.1 17 7) = 1 then some (dk_si t5 16 1 4) else some (dk_si t5 16 1 5))
    (fun t9 : Int32 × Int32 × dk_S => dk_gd (dk_in t9.2.1 200) ((fX7_closeTrip (((t9.2.2.2 23 t9.2.1.toNatClampNeg) - (t9.2.2.2 16 7)).toInt32) t9.1 t9.2.2).bind (fun r10 => some r10)))
    400 0 m (fun _ => none) (fun _ => nI a) (nI a) 0 0 S4 (by omega) (by omega) (p_I_0 ha) ⟨fun _ _ _ => rfl, fun _ _ => rfl, ⟨0, 0, e17⟩, fun j hj => (by omega), fun j m h => (by cases h), fun j _ hj => (by rw [e2o 23 (by omega)]; have := hs2 j hj; omega)⟩
  rw [hP, p_res_eq] at hz
  generalize hPP : c_P (S.1 19) sl (S.1 20 1) = P at hz hP ⊢
  have hlim : P.2.2.2.2 = 20 + 8 * S.1 19 0 := by rw [← hPP]; rfl
  rw [nI_0] at hzc
  obtain ⟨r1, r2, ⟨lo, we, r3⟩, r4, r5, r6⟩ := hzR
  refine ⟨z, ?_⟩
  have hbound : ∀ j, j < 200 → (T2.2 23 j).toInt ≤ (S4.2 16 7).toInt + 400 := by
    intro j hj
    cases hw : z.2.1 j with
    | none => have := r6 j hw hj; omega
    | some k => have h7 := r5 j k hw hj; have h8 := (hzI.2.2.2 j k hw).1; omega
  rcases hzc with ⟨hi, hk⟩ | ⟨hi, ⟨m0, hw⟩, hk⟩ | ⟨hi, hw, T3, hk, g1, g2, g3⟩
  · refine ⟨if T2.1 17 7 = 1 then dk_si T2 16 1 4 else dk_si T2 16 1 5, hz, ?_, ?_, ?_, ?_, ?_, ?_, ?_, ?_, ?_⟩
    · rw [hk]
      by_cases h1 : T2.1 17 7 = 1
      · rw [if_pos h1, if_pos h1]
      · rw [if_neg h1, if_neg h1]
    all_goals
      rw [r3, c_row_7]
    · unfold p_K
      rw [if_neg hi]
      by_cases h1 : z.2.2.2.2.2 = 1
      · rw [if_pos h1, if_pos h1, dk_si_eq, dk_sr_same, upd_same]
      · rw [if_neg h1, if_neg h1, dk_si_eq, dk_sr_same, upd_same]
    · unfold p_K
      rw [if_neg hi]
      have h162 : T2.1 16 2 = 0 := by rw [r1 16 (by omega) (by omega), e16]; rfl
      by_cases h1 : z.2.2.2.2.2 = 1
      · rw [if_pos h1, dk_si_eq, dk_sr_same, upd_ne _ _ (by omega), h162]; rfl
      · rw [if_neg h1, dk_si_eq, dk_sr_same, upd_ne _ _ (by omega), h162]; rfl
    · intro m0 hi0; exact absurd hi0 hi
    · intro _
      by_cases h1 : z.2.2.2.2.2 = 1
      · rw [if_pos h1, dk_si_eq, dk_sr_ne _ _ (by omega), r3, c_row_6]
      · rw [if_neg h1, dk_si_eq, dk_sr_ne _ _ (by omega), r3, c_row_6]
    · intro q q1 q2 q3
      by_cases h1 : z.2.2.2.2.2 = 1
      · rw [if_pos h1, dk_si_eq, dk_sr_ne _ _ q1, r1 q q2 q3, eo q q1 q2]
      · rw [if_neg h1, dk_si_eq, dk_sr_ne _ _ q1, r1 q q2 q3, eo q q1 q2]
    · intro q q1 q2
      by_cases h1 : z.2.2.2.2.2 = 1
      · rw [if_pos h1, dk_si_eq, dk_sr_2, r2 q q2, e2o q q1]
      · rw [if_neg h1, dk_si_eq, dk_sr_2, r2 q q2, e2o q q1]
    · by_cases h1 : z.2.2.2.2.2 = 1
      · rw [if_pos h1, dk_si_eq, dk_sr_2, r2 16 (by omega), e2s]
      · rw [if_neg h1, dk_si_eq, dk_sr_2, r2 16 (by omega), e2s]
    · intro j hj
      by_cases h1 : z.2.2.2.2.2 = 1
      · rw [if_pos h1, dk_si_eq, dk_sr_2, r2 16 (by omega)]; exact hbound j hj
      · rw [if_neg h1, dk_si_eq, dk_sr_2, r2 16 (by omega)]; exact hbound j hj
  · obtain ⟨⟨p, hp, ep⟩, hf⟩ := hzI.1 hi
    obtain ⟨f, hf1, ef⟩ := p_foot hf
    obtain ⟨e1, e2⟩ := p_ix_nI (a := p) (b := f) (by omega) hf1
    obtain ⟨hm0, p', f', g2, g3, g4, g5⟩ := hzI.2.2.2 _ _ hw
    have hpp : p' = p := by rw [ep, ef, e2] at g4; omega
    subst hpp
    have hw' := hw
    rw [ep, ef, e2] at hw'
    have h5 := r5 _ _ hw' (by omega)
    have hsub : ((T2.2 23 (2 * p' + f)) - (T2.2 16 7)).toInt32 = nI m0 := by
      apply Int32.toInt_inj.mp
      rw [Int64.toInt_toInt32, Int64.toInt_sub, h5, r2 16 (by omega), nI_toInt (by omega)]
      rw [show (S4.2 16 7).toInt + (m0 : Int) - (S4.2 16 7).toInt = (m0 : Int) by omega]
      rw [show ((m0 : Int).bmod (2 ^ 64)) = (m0 : Int) from Int.bmod_eq_of_le (by omega) (by omega)]
      exact Int.bmod_eq_of_le (by omega) (by omega)
    have h161 : T2.1 16 1 = 3 := by rw [r1 16 (by omega) (by omega), e16]; rfl
    obtain ⟨T, t1, t2, t3, t4, t5, t6, t7⟩ := q_closeTrip (S := T2) (m0 := m0) (N := z.1) hm0 hz4 h161
    have e22 : ∀ j, j < z.1 → T2.1 22 j = z.2.2.1 j := r4
    have e22m : T2.1 22 m0 = nI p' := by rw [r4 m0 hm0, g5]
    have hlo : p_lo (T2.1 22) (z.1 - m0) m0 (T2.1 22 m0) = p_lo z.2.2.1 (z.1 - m0) m0 z.2.2.2.1 := by
      rw [e22m, ← ep]
      exact p_lo_congr _ _ _ (fun j h1 h2 => r4 j (by omega))
    have hhi : p_hi (T2.1 22) (z.1 - m0) m0 (T2.1 22 m0) = p_hi z.2.2.1 (z.1 - m0) m0 z.2.2.2.1 := by
      rw [e22m, ← ep]
      exact p_hi_congr _ _ _ (fun j h1 h2 => r4 j (by omega))
    have hK : p_K P z = (p_kd P.2.2.2.2 (p_lo z.2.2.1 (z.1 - m0) m0 z.2.2.2.1) (p_hi z.2.2.1 (z.1 - m0) m0 z.2.2.2.1) (z.1 - m0), z.1 - m0, p_lo z.2.2.1 (z.1 - m0) m0 z.2.2.2.1, p_hi z.2.2.1 (z.1 - m0) m0 z.2.2.2.1) := by
      unfold p_K
      rw [if_pos hi, hw]
    refine ⟨T, hz, ?_, ?_, ?_, ?_, ?_, ?_, ?_, ?_, ?_⟩
    · rw [hk]
      dsimp only
      rw [ep, ef, e1, dI_in (by omega) (by omega), dk_gd_t, nI_clamp (by omega), hsub, t1]
      rfl
    · rw [t2, hK, hlo, hhi, r1 19 (by omega) (by omega), eo 19 (by omega) (by omega), hlim]
    · rw [t3, hK]
    · intro m1 _ hw1
      rw [t4, t5, hK, hlo, hhi]
      exact ⟨rfl, rfl⟩
    · intro hi0; exact absurd hi hi0
    · intro q q1 q2 q3
      rw [t6 q q1, r1 q q2 q3, eo q q1 q2]
    · intro q q1 q2
      rw [t7, r2 q q2, e2o q q1]
    · rw [t7, r2 16 (by omega), e2s]
    · intro j hj
      rw [t7, r2 16 (by omega)]
      exact hbound j hj
  · have hK : p_K P z = (3, 0, 0, 0) := by
      unfold p_K
      rw [if_pos hi, hw]
    refine ⟨T3, hz, hk, ?_, ?_, ?_, ?_, ?_, ?_, ?_, ?_⟩
    · rw [g1 16 (by omega) (by omega), e16, hK]; rfl
    · rw [g1 16 (by omega) (by omega), e16, hK]; rfl
    · intro m1 _ hw1
      rw [hw] at hw1
      cases hw1
    · intro hi0; exact absurd hi hi0
    · intro q q1 q2 q3
      rw [g1 q q2 q3, eo q q1 q2]
    · intro q q1 q2
      rw [g2 q q2, e2o q q1]
    · rw [g2 16 (by omega), e2s]
    · intro j hj
      rw [g2 16 (by omega)]
      exact g3 j hj
