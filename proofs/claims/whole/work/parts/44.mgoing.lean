/-! A GOING, in the model -/
def m_R (S0 : dk_S) (c : Nat → Int32) (n : Nat) (wh : Nat → Option Nat) (pcs : Nat → Int32) (p f i : Int32) (T : dk_S) : Prop :=
  (∀ a, ¬ a = 82 → ¬ a = 99 → ¬ a = 100 → T.1 a = S0.1 a) ∧ T.2 = S0.2 ∧ (∃ lo we, T.1 82 = m_row c p f i lo we) ∧ (∀ j, j ≤ n → T.1 100 j = pcs j) ∧ (∀ j m, wh j = some m → j < 400 → T.1 99 j = nI m) ∧ (∀ j, wh j = none → j < 400 → T.1 99 j = -9)
theorem nI_m9 {n : Nat} (h : n < 2 ^ 31) : ¬ nI n = -9 := by
  intro q
  have := congrArg Int32.toInt q
  rw [nI_toInt h] at this
  have h9 : (-9 : Int32).toInt = -9 := rfl
  omega
theorem e_mgo {S0 : dk_S} {c : Nat → Int32} (h23 : c 23 = -9) (hD : ¬ (8 + 2 * S0.1 95 1) - S0.1 95 2 = 0) (hl : (m_P (S0.1 95) (c 21) (c 20) (S0.1 96)).2.2.2.2.toInt ≤ 99) (kx : (Int32 × dk_S) → Option (Int32 × dk_S)) :
    ∀ (d n m : Nat) (wh : Nat → Option Nat) (pcs : Nat → Int32) (p f i : Int32) (T : dk_S), n + d = 400 → d + 1 ≤ m → p_I n wh pcs p f i → m_R S0 c n wh pcs p f i T → ∃ (z : p_Z) (T2 : dk_S), z = p_go (m_P (S0.1 95) (c 21) (c 20) (S0.1 96)) d n wh pcs p f i ∧ z.1 ≤ 400 ∧ p_I z.1 z.2.1 z.2.2.1 z.2.2.2.1 z.2.2.2.2.1 z.2.2.2.2.2 ∧ m_R S0 c z.1 z.2.1 z.2.2.1 z.2.2.2.1 z.2.2.2.2.1 z.2.2.2.2.2 T2 ∧ fX9_goingOf_L43 kx m (nI n) T = kx (nI z.1, T2) := by
  intro d
  induction d with
  | zero =>
    intro n m wh pcs p f i T hnd hm hI hR
    refine ⟨(n, wh, pcs, p, f, i), T, rfl, by show n ≤ 400; omega, hI, hR, ?_⟩
    obtain ⟨r1, r2, ⟨lo, we, r3⟩, r4, r5, r6⟩ := hR
    obtain ⟨m', rfl⟩ : ∃ m', m = m' + 1 := ⟨m - 1, by omega⟩
    rw [fX9_goingOf_L43, r3, m_row_27, m_row_25, m_row_26]
    by_cases hi : i = 0
    · obtain ⟨⟨a, ha, rfl⟩, hf⟩ := hI.1 hi
      obtain ⟨b, hb, rfl⟩ := p_foot hf
      obtain ⟨e1, e2⟩ := p_ix_nI (a := a) (b := b) (by omega) hb
      rw [if_pos hi, e1, dI_in (by omega) (by omega), dk_gd_t, nI_clamp (by omega)]
      have h400 : (400 : Int32) ≤ nI n := (nI_leI (a := 400) (by omega) (by omega)).mpr (by omega)
      by_cases hw : T.1 99 (2 * a + b) = -9
      · rw [if_pos hw, if_pos h400]
      · rw [if_neg hw]
    · rw [if_neg hi]
  | succ d ih =>
    intro n m wh pcs p f i T hnd hm hI hR
    obtain ⟨r1, r2, ⟨lo, we, r3⟩, r4, r5, r6⟩ := id hR
    obtain ⟨m', rfl⟩ : ∃ m', m = m' + 1 := ⟨m - 1, by omega⟩
    by_cases hc : i = 0 ∧ wh (p_ix p f) = none
    · obtain ⟨hi, hw⟩ := hc
      obtain ⟨⟨a, ha, hpa⟩, hf⟩ := hI.1 hi
      obtain ⟨b, hb, hfb⟩ := p_foot hf
      obtain ⟨e1, e2⟩ := p_ix_nI (a := a) (b := b) (by omega) hb
      subst hi
      have hix : p_ix p f = 2 * a + b := by rw [hpa, hfb, e2]
      have hy : (2 : Int32) * p + f = nI (2 * a + b) := by rw [hpa, hfb, e1]
      have hw9 : T.1 99 (2 * a + b) = -9 := by rw [hix] at hw; exact r6 _ hw (by omega)
      have h400 : ¬ (400 : Int32) ≤ nI n := fun q => by have := (nI_leI (a := 400) (b := n) (by omega) (by omega)).mp q; omega
      generalize hT1 : dk_si T 99 (2 * a + b) (nI n) = T1
      have h182 : T1.1 82 = m_row c p f 0 lo we := by rw [← hT1, dk_si_eq, dk_sr_ne _ _ (by omega), r3]
      have h1o : ∀ q, ¬ q = 99 → T1.1 q = T.1 q := fun q hq => by rw [← hT1, dk_si_eq, dk_sr_ne _ _ hq]
      have h95 : T1.1 95 = S0.1 95 := by rw [h1o 95 (by omega), r1 95 (by omega) (by omega) (by omega)]
      have h96 : T1.1 96 = S0.1 96 := by rw [h1o 96 (by omega), r1 96 (by omega) (by omega) (by omega)]
      have hst := q_mstep (x := 0) h182 rfl hf (by rw [h95]; exact hD)
      rw [h95, h96] at hst
      have hsteps : fX9_steps (nI n) T1 = fX9_step 0 T1 := by
        unfold fX9_steps
        rw [h182, m_row_o _ _ _ _ _ _ (by omega), h23, if_neg (nI_m9 (by omega))]
        cases fX9_step 0 T1 <;> rfl
      generalize hP : m_P (S0.1 95) (c 21) (c 20) (S0.1 96) = P at hst hl ih ⊢
      generalize hT2 : dk_sr T1 82 (m_row c (p_S P 0 p f).1 (p_S P 0 p f).2.1 (p_S P 0 p f).2.2 (lo + p * p / P.2.2.1) (we + (S0.1 95 3 + (p_S P 0 p f).1 / 10))) = T2 at hst
      have h282 : T2.1 82 = m_row c (p_S P 0 p f).1 (p_S P 0 p f).2.1 (p_S P 0 p f).2.2 (lo + p * p / P.2.2.1) (we + (S0.1 95 3 + (p_S P 0 p f).1 / 10)) := by rw [← hT2]; exact dk_sr_same _ _ _
      have h2o : ∀ q, ¬ q = 82 → T2.1 q = T1.1 q := fun q hq => by rw [← hT2]; exact dk_sr_ne _ _ hq
      have h22 : T2.2 = T.2 := by rw [← hT2, dk_sr_2, ← hT1]; rfl
      have hnext := p_I_next hl hI
      obtain ⟨z, T3, hz, hz4, hzI, hzR, hzc⟩ := ih (n + 1) m' (fun j => if j = p_ix p f then some n else wh j) (fun j => if j = n + 1 then (p_S P 0 p f).1 else pcs j) (p_S P 0 p f).1 (p_S P 0 p f).2.1 (p_S P 0 p f).2.2 (dk_si T2 100 (n + 1) (p_S P 0 p f).1) (by omega) (by omega) hnext (by
        refine ⟨fun q h1 h2 h3 => ?_, ?_, ⟨lo + p * p / P.2.2.1, we + (S0.1 95 3 + (p_S P 0 p f).1 / 10), ?_⟩, fun j hj => ?_, fun j k hj hj2 => ?_, fun j hj hj2 => ?_⟩
        · rw [dk_si_eq, dk_sr_ne _ _ h3, h2o q h1, h1o q h2, r1 q h1 h2 h3]
        · rw [dk_si_eq, dk_sr_2, h22, r2]
        · rw [dk_si_eq, dk_sr_ne _ _ (by omega), h282]
        · rw [dk_si_eq, dk_sr_same, h2o 100 (by omega), h1o 100 (by omega)]
          dsimp only
          by_cases hjn : j = n + 1
          · rw [if_pos hjn, hjn, upd_same]
          · rw [if_neg hjn, upd_ne _ _ hjn]
            exact r4 j (by omega)
        · rw [dk_si_eq, dk_sr_ne _ _ (by omega), h2o 99 (by omega), ← hT1, dk_si_eq, dk_sr_same]
          rw [hix] at hj
          dsimp only at hj
          by_cases hjx : j = 2 * a + b
          · rw [if_pos hjx] at hj
            cases hj
            rw [hjx, upd_same]
          · rw [if_neg hjx] at hj
            rw [upd_ne _ _ hjx]
            exact r5 j k hj hj2
        · rw [dk_si_eq, dk_sr_ne _ _ (by omega), h2o 99 (by omega), ← hT1, dk_si_eq, dk_sr_same]
          rw [hix] at hj
          dsimp only at hj
          by_cases hjx : j = 2 * a + b
          · rw [if_pos hjx] at hj
            cases hj
          · rw [if_neg hjx] at hj
            rw [upd_ne _ _ hjx]
            exact r6 j hj hj2)
      refine ⟨z, T3, ?_, hz4, hzI, hzR, ?_⟩
      · rw [hz, p_go, if_pos ⟨rfl, hw⟩]
      · rw [← hzc, fX9_goingOf_L43, r3, m_row_27, m_row_25, m_row_26, if_pos rfl, hy, dI_in (by omega) (by omega), dk_gd_t, nI_clamp (by omega), if_pos hw9, if_neg h400, dk_gd_t, dk_lt_eq, hT1, hsteps, hst, some_bind', nI_1, dI_in (by omega) (by omega), dk_gd_t, dk_lt_eq, nI_clamp (by omega), h282, m_row_25]
    · refine ⟨(n, wh, pcs, p, f, i), T, by rw [p_go, if_neg hc], by show n ≤ 400; omega, hI, hR, ?_⟩
      rw [fX9_goingOf_L43, r3, m_row_27, m_row_25, m_row_26]
      by_cases hi : i = 0
      · obtain ⟨⟨a, ha, hpa⟩, hf⟩ := hI.1 hi
        obtain ⟨b, hb, hfb⟩ := p_foot hf
        obtain ⟨e1, e2⟩ := p_ix_nI (a := a) (b := b) (by omega) hb
        have hix : p_ix p f = 2 * a + b := by rw [hpa, hfb, e2]
        have hy : (2 : Int32) * p + f = nI (2 * a + b) := by rw [hpa, hfb, e1]
        cases hw : wh (p_ix p f) with
        | none => exact absurd ⟨hi, hw⟩ hc
        | some k =>
          have hk := (hI.2.2.2 _ _ hw).1
          rw [hix] at hw
          rw [if_pos hi, hy, dI_in (by omega) (by omega), dk_gd_t, nI_clamp (by omega), if_neg (by rw [r5 _ _ hw (by omega)]; exact nI_m9 (by omega))]
      · rw [if_neg hi]
theorem e_when (x : Int32) (kx : dk_S → Option (Int32 × dk_S)) : ∀ (m i : Nat) (S : dk_S), i ≤ 400 → 400 - i < m → fX9_goingOf_L2 x kx m (nI i) S = kx (dk_sr S 99 (fun j => if i ≤ j ∧ j < 400 then -9 else S.1 99 j)) := by
  intro m
  induction m with
  | zero => intro i S h1 h2; omega
  | succ m ih =>
    intro i S h1 h2
    rw [fX9_goingOf_L2]
    by_cases h : 400 ≤ i
    · rw [if_pos (show (400 : Int32) ≤ nI i from (nI_leI (a := 400) (by omega) (by omega)).mpr h)]
      congr 1
      conv => lhs; rw [← dk_sr_id S 99]
      congr 1
      funext j
      rw [if_neg (by omega)]
    · rw [if_neg (show ¬ (400 : Int32) ≤ nI i from fun q => h ((nI_leI (a := 400) (by omega) (by omega)).mp q)), dI_in (by omega) (by omega), dk_gd_t, dk_lt_eq, nI_1, nI_clamp (by omega), ih (i + 1) _ (by omega) (by omega), dk_si_eq, dk_sr_sr, dk_sr_same]
      congr 2
      funext j
      by_cases hj : j = i
      · subst hj
        rw [if_neg (by omega), if_pos (by omega), upd_same]
      · rw [upd_ne _ _ hj]
        by_cases hj2 : i ≤ j ∧ j < 400
        · rw [if_pos hj2, if_pos (by omega)]
        · rw [if_neg hj2, if_neg (by omega)]
/-- slots 36, 37 -/
def u_row (c : Nat → Int32) (lo hi : Int32) : Nat → Int32 := fun j => if j = 36 then lo else if j = 37 then hi else c j
theorem u_row_36 (c : Nat → Int32) (lo hi : Int32) : u_row c lo hi 36 = lo := rfl
theorem u_row_37 (c : Nat → Int32) (lo hi : Int32) : u_row c lo hi 37 = hi := rfl
theorem u_row_u36 (c : Nat → Int32) (lo hi v : Int32) : upd (u_row c lo hi) 36 v = u_row c v hi := by
  funext j; unfold upd u_row; by_cases h : j = 36 <;> simp [h]
theorem u_row_u37 (c : Nat → Int32) (lo hi v : Int32) : upd (u_row c lo hi) 37 v = u_row c lo v := by
  funext j; unfold upd u_row; by_cases h : j = 37 <;> simp [h]
theorem u_row_o (c : Nat → Int32) (lo hi : Int32) {j : Nat} (h : ¬ j = 36) (h2 : ¬ j = 37) : u_row c lo hi j = c j := by
  unfold u_row; rw [if_neg h, if_neg h2]
theorem e_mclose (N : Nat) (hN : N ≤ 400) (kx : dk_S → Option (Int32 × dk_S)) : ∀ (m i : Nat) (c : Nat → Int32) (lo hi : Int32) (S : dk_S), S.1 82 = u_row c lo hi → i ≤ N → N - i < m → fX9_goingOf_L210 (nI N) kx m (nI i) S = kx (dk_sr S 82 (u_row c (p_lo (S.1 100) (N - i) i lo) (p_hi (S.1 100) (N - i) i hi))) := by
  intro m
  induction m with
  | zero => intro i c lo hi S h0 h1 h2; omega
  | succ m ih =>
    intro i c lo hi S h0 h1 h2
    rw [fX9_goingOf_L210]
    by_cases h : N ≤ i
    · rw [if_pos ((nI_leI (by omega) (by omega)).mpr h), show N - i = 0 by omega]
      show kx S = kx (dk_sr S 82 (u_row c lo hi))
      rw [← h0, dk_sr_id]
    · rw [if_neg (fun q => h ((nI_leI (by omega) (by omega)).mp q)), dI_in (by omega) (by omega), dk_gd_t, nI_clamp (by omega)]
      simp only [q_lesser, q_greater, some_bind', dk_lt_eq, dk_gd_t, dk_si_eq, dk_sr_sr, dk_sr_same, h0, u_row_u36, u_row_u37, u_row_36, u_row_37, dk_sr_ne _ _ (by omega : ¬ 100 = 82), nI_1]
      rw [ih (i + 1) c _ _ _ (dk_sr_same _ _ _) (by omega) (by omega), dk_sr_sr, dk_sr_ne _ _ (by omega : ¬ 100 = 82), show N - i = (N - (i + 1)) + 1 by omega]
      rfl
/-- A GOING, in the model -/
theorem q_going {S : dk_S} {a : Nat} (ha : a ≤ 99) (h23 : S.1 82 23 = -9) (hD : ¬ (8 + 2 * S.1 95 1) - S.1 95 2 = 0) (hl : (20 + 8 * S.1 95 0).toInt ≤ 99) :
    ∃ (z : p_Z) (T : dk_S), z = p_res (m_P (S.1 95) (S.1 82 21) (S.1 82 20) (S.1 96)) (nI a) ∧ fX9_goingOf (nI a) S = some ((p_K (m_P (S.1 95) (S.1 82 21) (S.1 82 20) (S.1 96)) z).1, T) ∧ T.1 82 35 = nI (p_K (m_P (S.1 95) (S.1 82 21) (S.1 82 20) (S.1 96)) z).2.1 ∧ T.1 82 34 = nI z.1 ∧ (∀ m0, z.2.2.2.2.2 = 0 → z.2.1 (p_ix z.2.2.2.1 z.2.2.2.2.1) = some m0 → T.1 82 36 = (p_K (m_P (S.1 95) (S.1 82 21) (S.1 82 20) (S.1 96)) z).2.2.1 ∧ T.1 82 37 = (p_K (m_P (S.1 95) (S.1 82 21) (S.1 82 20) (S.1 96)) z).2.2.2) ∧ (∀ q, ¬ q = 82 → ¬ q = 99 → ¬ q = 100 → T.1 q = S.1 q) ∧ T.2 = S.2 ∧ (∀ j, j < 25 ∨ (29 < j ∧ j < 34) ∨ 37 < j → T.1 82 j = S.1 82 j) := by
  unfold fX9_goingOf
  have hw := e_when (nI a) (fun t1 : dk_S => (fX9_starts (nI a) 0 t1).bind (fun r2 => dk_lt (dk_si r2 100 0 (nI a)) (fun S3 => dk_lt (dk_si S3 82 35 0) (fun S4 => fX9_goingOf_L43 (fun t5 : Int32 × dk_S => dk_lt (dk_si t5.2 82 34 t5.1) (fun S6 => if (S6.1 82 27) = 0 then dk_gd (dk_in ((2 * (S6.1 82 25)) + (S6.1 82 26)) 400) (if (S6.1 99 ((2 * (S6.1 82 25)) + (S6.1 82 26)).toNatClampNeg) = (-9) then some (3, S6) else dk_gd (dk_in ((2 * (S6.1 82 25)) + (S6.1 82 26)) 400) (dk_lt (dk_si S6 82 35 (t5.1 - (S6.1 99 ((2 * (S6.1 82 25)) + (S6.1 82 26)).toNatClampNeg))) (fun S9 => dk_lt (dk_si S9 82 36 (S9.1 82 25)) (fun S10 => dk_lt (dk_si S10 82 37 (S10.1 82 25)) (fun S11 => dk_lt (t5.1 - (S11.1 82 35)) (fun y12 : Int32 => fX9_goingOf_L210 t5.1 (fun t13 : dk_S => if (t13.1 82 36) = (t13.1 82 37) then (fX9_fallsAt t13).bind (fun r17 => if (t13.1 82 36) ≤ (r17.1 / 2) then some (1, r17.2) else some (6, r17.2)) else if (t13.1 82 35) = 4 then some (7, t13) else if 4 ≤ (t13.1 82 35) then some (3, t13) else some (2, t13)) dk_FU y12 S11)))))) else if (S6.1 82 27) = 1 then some (4, S6) else some (5, S6))) dk_FU 0 S4)))) dk_FU 0 S (by omega) (by have := dk_FU_ge; omega)
  rw [nI_0] at hw
  rw [hw, q_starts, some_bind', dk_lt_eq, dk_lt_eq]
  generalize hS4 : dk_si (dk_si (dk_sr (dk_sr S 99 (fun j => if 0 ≤ j ∧ j < 400 then -9 else S.1 99 j)) 82 (m_row ((dk_sr S 99 (fun j => if 0 ≤ j ∧ j < 400 then -9 else S.1 99 j)).1 82) (nI a) 0 0 0 0)) 100 0 (nI a)) 82 35 0 = S4
  have e82 : S4.1 82 = m_row (upd (S.1 82) 35 0) (nI a) 0 0 0 0 := by
    rw [← hS4]
    simp (disch := omega) only [dk_si_eq, dk_sr_same, dk_sr_ne]
    funext j
    unfold m_row upd
    by_cases h : j = 35
    · subst h; rfl
    · simp [h]
  have e99 : ∀ j, j < 400 → S4.1 99 j = -9 := fun j hj => by
    rw [← hS4]
    simp (disch := omega) only [dk_si_eq, dk_sr_same, dk_sr_ne]
    rw [if_pos (by omega)]
  have e100 : S4.1 100 0 = nI a := by
    rw [← hS4]
    simp (disch := omega) only [dk_si_eq, dk_sr_same, dk_sr_ne, upd_same]
  have eo : ∀ q, ¬ q = 82 → ¬ q = 99 → ¬ q = 100 → S4.1 q = S.1 q := fun q h1 h2 h3 => by
    rw [← hS4, dk_si_eq, dk_sr_ne _ _ h1, dk_si_eq, dk_sr_ne _ _ h3, dk_sr_ne _ _ h1, dk_sr_ne _ _ h2]
  have e2 : S4.2 = S.2 := by rw [← hS4]; rfl
  have c20 : (upd (S.1 82) 35 0) 20 = S.1 82 20 := upd_ne _ _ (by omega)
  have c21 : (upd (S.1 82) 35 0) 21 = S.1 82 21 := upd_ne _ _ (by omega)
  have c23 : (upd (S.1 82) 35 0) 23 = -9 := by rw [upd_ne _ _ (by omega)]; exact h23
  have hP : m_P (S4.1 95) ((upd (S.1 82) 35 0) 21) ((upd (S.1 82) 35 0) 20) (S4.1 96) = m_P (S.1 95) (S.1 82 21) (S.1 82 20) (S.1 96) := by rw [c20, c21, eo 95 (by omega) (by omega) (by omega), eo 96 (by omega) (by omega) (by omega)]
  obtain ⟨z, T2, hz, hz4, hzI, hzR, hzc⟩ := e_mgo (S0 := S4) (c := upd (S.1 82) 35 0) c23 (by rw [eo 95 (by omega) (by omega) (by omega)]; exact hD) (by rw [hP]; exact hl)
    (fun t5 : Int32 × dk_S => dk_lt (dk_si t5.2 82 34 t5.1) (fun S6 => if (S6.1 82 27) = 0 then dk_gd (dk_in ((2 * (S6.1 82 25)) + (S6.1 82 26)) 400) (if (S6.1 99 ((2 * (S6.1 82 25)) + (S6.1 82 26)).toNatClampNeg) = (-9) then some (3, S6) else dk_gd (dk_in ((2 * (S6.1 82 25)) + (S6.1 82 26)) 400) (dk_lt (dk_si S6 82 35 (t5.1 - (S6.1 99 ((2 * (S6.1 82 25)) + (S6.1 82 26)).toNatClampNeg))) (fun S9 => dk_lt (dk_si S9 82 36 (S9.1 82 25)) (fun S10 => dk_lt (dk_si S10 82 37 (S10.1 82 25)) (fun S11 => dk_lt (t5.1 - (S11.1 82 35)) (fun y12 : Int32 => fX9_goingOf_L210 t5.1 (fun t13 : dk_S => if (t13.1 82 36) = (t13.1 82 37) then (fX9_fallsAt t13).bind (fun r17 => if (t13.1 82 36) ≤ (r17.1 / 2) then some (1, r17.2) else some (6, r17.2)) else if (t13.1 82 35) = 4 then some (7, t13) else if 4 ≤ (t13.1 82 35) then some (3, t13) else some (2, t13)) dk_FU y12 S11)))))) else if (S6.1 82 27) = 1 then some (4, S6) else some (5, S6)))
    400 0 dk_FU (fun _ => none) (fun _ => nI a) (nI a) 0 0 S4 (by omega) (by have := dk_FU_ge; omega) (p_I_0 ha) ⟨fun _ _ _ _ => rfl, rfl, ⟨0, 0, e82⟩, fun j hj => (by rw [show j = 0 by omega]; exact e100), fun j m h => (by cases h), fun j _ hj => e99 j hj⟩
  rw [hP, p_res_eq] at hz
  rw [nI_0] at hzc
  rw [hzc]
  generalize hPP : m_P (S.1 95) (S.1 82 21) (S.1 82 20) (S.1 96) = P at hz ⊢
  have hlim : P.2.2.2.2 = 20 + 8 * S.1 95 0 := by rw [← hPP]; rfl
  obtain ⟨r1, r2, ⟨lo, we, r3⟩, r4, r5, r6⟩ := hzR
  simp only [dk_lt_eq]
  generalize hS6 : dk_si T2 82 34 (nI z.1) = S6
  have f82 : S6.1 82 = upd (m_row (upd (S.1 82) 35 0) z.2.2.2.1 z.2.2.2.2.1 z.2.2.2.2.2 lo we) 34 (nI z.1) := by rw [← hS6, dk_si_eq, dk_sr_same, r3]
  have fo : ∀ q, ¬ q = 82 → S6.1 q = T2.1 q := fun q h => by rw [← hS6, dk_si_eq, dk_sr_ne _ _ h]
  have f2 : S6.2 = S.2 := by rw [← hS6, dk_si_eq, dk_sr_2, r2, e2]
  have f27 : S6.1 82 27 = z.2.2.2.2.2 := by rw [f82, upd_ne _ _ (by omega), m_row_27]
  have f25 : S6.1 82 25 = z.2.2.2.1 := by rw [f82, upd_ne _ _ (by omega), m_row_25]
  have f26 : S6.1 82 26 = z.2.2.2.2.1 := by rw [f82, upd_ne _ _ (by omega), m_row_26]
  have f35 : S6.1 82 35 = 0 := by rw [f82, upd_ne _ _ (by omega), m_row_o _ _ _ _ _ _ (by omega), upd_same]
  have f34 : S6.1 82 34 = nI z.1 := by rw [f82, upd_same]
  have fk : ∀ j, j < 25 ∨ (29 < j ∧ j < 34) ∨ 37 < j → S6.1 82 j = S.1 82 j := fun j hj => by
    rw [f82, upd_ne _ _ (by omega), m_row_o _ _ _ _ _ _ (by omega), upd_ne _ _ (by omega)]
  have fq : ∀ q, ¬ q = 82 → ¬ q = 99 → ¬ q = 100 → S6.1 q = S.1 q := fun q h1 h2 h3 => by rw [fo q h1, r1 q h1 h2 h3, eo q h1 h2 h3]
  rw [f27, f25, f26]
  refine ⟨z, ?_⟩
  by_cases hi : z.2.2.2.2.2 = 0
  · obtain ⟨⟨p, hp, ep⟩, hf⟩ := hzI.1 hi
    obtain ⟨f, hf1, ef⟩ := p_foot hf
    obtain ⟨e1, e2'⟩ := p_ix_nI (a := p) (b := f) (by omega) hf1
    have hix : p_ix z.2.2.2.1 z.2.2.2.2.1 = 2 * p + f := by rw [ep, ef, e2']
    rw [if_pos hi, ep, ef, e1, dI_in (by omega) (by omega), dk_gd_t, nI_clamp (by omega), fo 99 (by omega)]
    cases hw2 : z.2.1 (p_ix z.2.2.2.1 z.2.2.2.2.1) with
    | none =>
      have hK : p_K P z = (3, 0, 0, 0) := by unfold p_K; rw [if_pos hi, hw2]
      rw [hix] at hw2
      rw [if_pos (r6 _ hw2 (by omega)), hK]
      refine ⟨S6, hz, rfl, f35, f34, fun m0 _ h => ?_, fq, f2, fk⟩
      rw [e2', hw2] at h
      cases h
    | some m0 =>
      obtain ⟨hm0, p', f', g2, g3, g4, g5⟩ := hzI.2.2.2 _ _ hw2
      have hK : p_K P z = (p_kd P.2.2.2.2 (p_lo z.2.2.1 (z.1 - m0) m0 z.2.2.2.1) (p_hi z.2.2.1 (z.1 - m0) m0 z.2.2.2.1) (z.1 - m0), z.1 - m0, p_lo z.2.2.1 (z.1 - m0) m0 z.2.2.2.1, p_hi z.2.2.1 (z.1 - m0) m0 z.2.2.2.1) := by
        unfold p_K
        rw [if_pos hi, hw2]
      rw [hix] at hw2
      have hwn := r5 _ _ hw2 (by omega)
      rw [if_neg (by rw [hwn]; exact nI_m9 (by omega)), dk_gd_t, hwn, nI_sub (by omega)]
      rw [hK]
      dsimp only
      generalize hS11 : dk_si (dk_si (dk_si S6 82 35 (nI (z.1 - m0))) 82 36 ((dk_si S6 82 35 (nI (z.1 - m0))).1 82 25)) 82 37 ((dk_si (dk_si S6 82 35 (nI (z.1 - m0))) 82 36 ((dk_si S6 82 35 (nI (z.1 - m0))).1 82 25)).1 82 25) = S11
      have k82 : S11.1 82 = u_row (upd (S6.1 82) 35 (nI (z.1 - m0))) z.2.2.2.1 z.2.2.2.1 := by
        rw [← hS11]
        simp only [dk_si_eq, dk_sr_sr, dk_sr_same]
        rw [upd_ne _ _ (by omega : ¬ 25 = 36), upd_ne _ _ (by omega : ¬ 25 = 35), f25]
        funext j
        unfold u_row
        rw [upd_at, upd_at _ 36]
        by_cases h3 : j = 36
        · subst h3; rfl
        · by_cases h4 : j = 37
          · subst h4; rfl
          · rw [if_neg h4, if_neg h3, if_neg h3, if_neg h4]
      have ko : ∀ q, ¬ q = 82 → S11.1 q = S6.1 q := fun q h => by
        rw [← hS11]
        simp only [dk_si_eq, dk_sr_sr]
        exact dk_sr_ne _ _ h
      have k2 : S11.2 = S.2 := by rw [← hS11]; exact f2
      have k35 : S11.1 82 35 = nI (z.1 - m0) := by rw [k82, u_row_o _ _ _ (by omega) (by omega), upd_same]
      rw [k35, nI_sub (by omega), show z.1 - (z.1 - m0) = m0 by omega]
      have hc := e_mclose z.1 hz4 (fun t13 : dk_S => if (t13.1 82 36) = (t13.1 82 37) then (fX9_fallsAt t13).bind (fun r17 => if (t13.1 82 36) ≤ (r17.1 / 2) then some (1, r17.2) else some (6, r17.2)) else if (t13.1 82 35) = 4 then some (7, t13) else if 4 ≤ (t13.1 82 35) then some (3, t13) else some (2, t13)) dk_FU m0 _ _ _ S11 k82 (by omega) (by have := dk_FU_ge; omega)
      rw [hc]
      have k100 : ∀ j, j < z.1 → S11.1 100 j = z.2.2.1 j := fun j hj => by rw [ko 100 (by omega), fo 100 (by omega)]; exact r4 j (by omega)
      rw [p_lo_congr (f := S11.1 100) (g := z.2.2.1) _ _ _ (fun j h1 h2 => k100 j (by omega)), p_hi_congr (f := S11.1 100) (g := z.2.2.1) _ _ _ (fun j h1 h2 => k100 j (by omega))]
      generalize p_lo z.2.2.1 (z.1 - m0) m0 z.2.2.2.1 = lw
      generalize p_hi z.2.2.1 (z.1 - m0) m0 z.2.2.2.1 = hg
      generalize hS13 : dk_sr S11 82 (u_row (upd (S6.1 82) 35 (nI (z.1 - m0))) lw hg) = S13
      have l82 : S13.1 82 = u_row (upd (S6.1 82) 35 (nI (z.1 - m0))) lw hg := by rw [← hS13]; exact dk_sr_same _ _ _
      have lo' : ∀ q, ¬ q = 82 → S13.1 q = S6.1 q := fun q h => by rw [← hS13, dk_sr_ne _ _ h, ko q h]
      have l35 : S13.1 82 35 = nI (z.1 - m0) := by rw [l82, u_row_o _ _ _ (by omega) (by omega), upd_same]
      have hans : (if (S13.1 82 36) = (S13.1 82 37) then (fX9_fallsAt S13).bind (fun r17 => if (S13.1 82 36) ≤ (r17.1 / 2) then some (1, r17.2) else some (6, r17.2)) else if (S13.1 82 35) = 4 then some (7, S13) else if 4 ≤ (S13.1 82 35) then some (3, S13) else some (2, S13)) = some (p_kd P.2.2.2.2 lw hg (z.1 - m0), S13) := by
        unfold fX9_fallsAt p_kd
        rw [l35, l82, u_row_36, u_row_37, lo' 95 (by omega), fq 95 (by omega) (by omega) (by omega), hlim, some_bind']
        by_cases q1 : lw = hg
        · rw [if_pos q1, if_pos q1]
          by_cases q2 : lw ≤ (20 + 8 * S.1 95 0) / 2
          · rw [if_pos q2, if_pos q2]
          · rw [if_neg q2, if_neg q2]
        · rw [if_neg q1, if_neg q1]
          by_cases q3 : z.1 - m0 = 4
          · rw [if_pos (show nI (z.1 - m0) = (4 : Int32) by rw [q3]; rfl), if_neg (by omega), if_pos q3]
          · rw [if_neg (show ¬ nI (z.1 - m0) = (4 : Int32) from fun q => q3 ((nI_eq (b := 4) (by omega) (by omega)).mp q))]
            by_cases q4 : 4 < z.1 - m0
            · rw [if_pos (show (4 : Int32) ≤ nI (z.1 - m0) from (nI_leI (a := 4) (by omega) (by omega)).mpr (by omega)), if_pos q4]
            · rw [if_neg (show ¬ (4 : Int32) ≤ nI (z.1 - m0) from fun q => by have := (nI_leI (a := 4) (by omega) (by omega)).mp q; omega), if_neg q4, if_neg q3]
      refine ⟨S13, hz, hans, l35, ?_, fun m1 _ h => ⟨by rw [l82]; rfl, by rw [l82]; rfl⟩, fun q h1 h2 h3 => by rw [lo' q h1, fq q h1 h2 h3], by rw [← hS13, dk_sr_2, k2], fun j hj => ?_⟩
      · rw [l82, u_row_o _ _ _ (by omega) (by omega), upd_ne _ _ (by omega), f34]
      · rw [l82, u_row_o _ _ _ (by omega) (by omega), upd_ne _ _ (by omega), fk j hj]
  · have hK : p_K P z = (if z.2.2.2.2.2 = 1 then 4 else 5, 0, 0, 0) := by unfold p_K; rw [if_neg hi]
    rw [if_neg hi, hK]
    refine ⟨S6, hz, ?_, f35, f34, fun m0 h => absurd h hi, fq, f2, fk⟩
    by_cases h1 : z.2.2.2.2.2 = 1
    · rw [if_pos h1, if_pos h1]
    · rw [if_neg h1, if_neg h1]
