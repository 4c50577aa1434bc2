/-! how far it is off -/
def o_f (d : Nat → Nat) : Nat → Nat → Nat → Nat
  | 0, _, a => a
  | k + 1, i, a => o_f d k (i + 1) (a + d i)
def o_e (d : Nat → Nat) (L : Nat) : Nat → Nat → Nat → Nat
  | 0, _, a => a
  | k + 1, i, a => if L < a then a else o_e d L k (i + 1) (a + d i)
theorem o_f_ge (d : Nat → Nat) : ∀ (k i a : Nat), a ≤ o_f d k i a := by
  intro k
  induction k with
  | zero => intro i a; exact Nat.le_refl _
  | succ k ih => intro i a; rw [o_f]; have := ih (i + 1) (a + d i); omega
theorem o_f_le {d : Nat → Nat} (hd : ∀ i, d i ≤ 99) : ∀ (k i a : Nat), o_f d k i a ≤ a + 99 * k := by
  intro k
  induction k with
  | zero => intro i a; exact Nat.le_refl _
  | succ k ih => intro i a; rw [o_f]; have := ih (i + 1) (a + d i); have := hd i; omega
theorem o_e_ok (d : Nat → Nat) (L : Nat) : ∀ (k i a : Nat), (o_f d k i a ≤ L → o_e d L k i a = o_f d k i a) ∧ (L < o_f d k i a → L < o_e d L k i a) ∧ o_e d L k i a ≤ o_f d k i a := by
  intro k
  induction k with
  | zero => intro i a; exact ⟨fun _ => rfl, fun h => h, Nat.le_refl _⟩
  | succ k ih =>
    intro i a
    rw [o_f, o_e]
    by_cases h : L < a
    · have hg := o_f_ge d k (i + 1) (a + d i)
      rw [if_pos h]
      exact ⟨fun q => by omega, fun _ => h, by omega⟩
    · rw [if_neg h]
      exact ih (i + 1) (a + d i)
/-- what is heard at a step, as a number -/
def o_h (P : p_P) (p0 i : Nat) : Nat := if (t_s P (nI p0) i).2.2 = 0 then (t_s P (nI p0) i).1.toNatClampNeg else 0
theorem o_h_ok {P : p_P} (hl : P.2.2.2.2.toInt ≤ 99) {p0 : Nat} (hp : p0 ≤ 99) (i : Nat) : o_h P p0 i ≤ 99 ∧ (if (t_s P (nI p0) i).2.2 = 0 then (t_s P (nI p0) i).1 else 0) = nI (o_h P p0 i) := by
  unfold o_h
  by_cases h : (t_s P (nI p0) i).2.2 = 0
  · obtain ⟨b, hb, e⟩ := t_s_p hl hp i h
    rw [if_pos h, if_pos h, e, nI_clamp (by omega)]
    exact ⟨hb, rfl⟩
  · rw [if_neg h, if_neg h]
    exact ⟨by omega, rfl⟩
/-- how far two numbers are from each other -/
def o_d (a b : Nat) : Nat := (a - b) + (b - a)
theorem o_d_abs {a b : Nat} (ha : a ≤ 99) (hb : b ≤ 99) (S : dk_S) : fJ9_abs_0f7a4 (nI a - nI b) S = some (nI (o_d a b), S) := by
  unfold fJ9_abs_0f7a4 o_d
  have hti := pk_sub_toInt (a := a) (b := b) (by omega) (by omega)
  by_cases hle : b ≤ a
  · rw [pk_sub hle, if_pos (nI_ge0 (by omega)), show a - b + (b - a) = a - b by omega]
  · rw [if_neg (fun q => by rw [i32_le, hti, show (0 : Int32).toInt = 0 from rfl] at q; omega), Int32.neg_sub, pk_sub (by omega), show a - b + (b - a) = b - a by omega]
/-- the class: a stride, whether it goes or not -/
theorem x_any {S : dk_S} {z : Nat → Int32} {rb sl p0 lo we : Int32} {n st : Nat} {c : Nat → Int32} (hT : c_T z rb S) (hc : c 3 = sl) (hst : st ≤ n) (hn : n < 1000) (h : S.1 17 = c_row c (t_s (c_P z sl rb) p0 n).1 (t_s (c_P z sl rb) p0 n).2.1 (nI st) (t_s (c_P z sl rb) p0 n).2.2 lo we) :
    ∃ (r : Int32) (T : dk_S) (st' : Nat) (lo' we' : Int32), fX0_stride 17 S = some (r, T) ∧ c_T z rb T ∧ st' ≤ n + 1 ∧ T.1 17 = c_row c (t_s (c_P z sl rb) p0 (n + 1)).1 (t_s (c_P z sl rb) p0 (n + 1)).2.1 (nI st') (t_s (c_P z sl rb) p0 (n + 1)).2.2 lo' we' ∧ (∀ q, ¬ q = 17 → T.1 q = S.1 q) ∧ T.2 = S.2 := by
  by_cases h0 : (t_s (c_P z sl rb) p0 n).2.2 = 0
  · rw [h0] at h
    have hx := x_cst hT h hc (by omega)
    rw [← t_s_S h0] at hx
    exact ⟨_, _, st + 1, _, _, hx, hT.row, by omega, dk_sr_same _ _ _, fun q hq => dk_sr_ne _ _ hq, rfl⟩
  · exact ⟨_, S, st, lo, we, q_stride0 (by rw [h, c_row_7]; exact h0), hT, by omega, by rw [t_s_E h0]; exact h, fun _ _ => rfl, rfl⟩
theorem e_coff {S0 : dk_S} {z : Nat → Int32} {rb sl : Int32} {c : Nat → Int32} {r N p0 L : Nat} {q : Nat → Nat} (hr : r < 6) (hN : N ≤ 60) (hc : c 3 = sl) (hl : (20 + 8 * z 0).toInt ≤ 99) (hp0 : p0 ≤ 99) (hL : L < 2 ^ 31) (hq : ∀ j, j < N → q j ≤ 99) (s31 : S0.1 (31 + 2 * r) 1 = nI N) (s32 : ∀ j, j < N → S0.1 (32 + 2 * r) j = nI (q j)) (s29 : S0.1 29 0 = nI L) : ∀ (m i a st : Nat) (lo we : Int32) (S : dk_S), 1 ≤ i → i ≤ N → N - i < m → a ≤ 99 * i → st ≤ i - 1 → c_T z rb S → S.1 17 = c_row c (t_s (c_P z sl rb) (nI p0) (i - 1)).1 (t_s (c_P z sl rb) (nI p0) (i - 1)).2.1 (nI st) (t_s (c_P z sl rb) (nI p0) (i - 1)).2.2 lo we → (∀ w, ¬ w = 17 → S.1 w = S0.1 w) → S.2 = S0.2 →
    ∃ T, fX2_offOf_L18 17 (31 + 2 * r) m (nI a) (nI i) S = some (nI (o_e (fun i => o_d (o_h (c_P z sl rb) p0 i) (q i)) L (N - i) i a), T) ∧ c_T z rb T ∧ (∀ w, ¬ w = 17 → T.1 w = S0.1 w) ∧ T.2 = S0.2 := by
  intro m
  induction m with
  | zero => intro i a st lo we S h0 h1 h2; omega
  | succ m ih =>
    intro i a st lo we S h0 h1 h2 ha hst hT hrow hS h22
    rw [fX2_offOf_L18, hS (31 + 2 * r) (by omega), s31]
    by_cases hi : i = N
    · subst hi
      rw [if_pos (Int32.le_refl _), Nat.sub_self]
      exact ⟨S, rfl, hT, hS, h22⟩
    · rw [if_neg (fun g => by have := (nI_leI (by omega) (by omega)).mp g; omega), hS 29 (by omega), s29, show N - i = (N - (i + 1)) + 1 by omega, o_e]
      by_cases hLa : L < a
      · rw [if_pos ((nI_ltI (by omega) (by omega)).mpr hLa), if_pos hLa]
        exact ⟨S, rfl, hT, hS, h22⟩
      · obtain ⟨i, rfl⟩ : ∃ i', i = i' + 1 := ⟨i - 1, by omega⟩
        rw [Nat.add_sub_cancel] at hrow hst
        obtain ⟨rr, T, st', lo', we', f1, f2, f3, f4, f5, f6⟩ := x_any hT hc hst (by omega) hrow
        obtain ⟨o1, o2⟩ := o_h_ok (P := c_P z sl rb) hl hp0 (i + 1)
        rw [if_neg (fun g => hLa ((nI_ltI (by omega) (by omega)).mp g)), if_neg hLa, f1, some_bind', dk_lt_eq]
        dsimp only
        rw [f4, c_row_7, c_row_4, o2, dI_in (by omega) (by omega), dk_gd_t, nI_clamp (by omega), show 31 + 2 * r + 1 = 32 + 2 * r by omega, f5 _ (by omega), hS _ (by omega), s32 _ (by omega), o_d_abs o1 (hq _ (by omega)), some_bind', dk_lt_eq, nI_add, nI_1]
        have hq1 := hq (i + 1) (by omega)
        exact ih (i + 1 + 1) _ st' lo' we' T (by omega) (by omega) (by omega) (by unfold o_d; omega) (by omega) f2 (by rw [Nat.add_sub_cancel]; exact f4) (fun w hw => by rw [f5 w hw, hS w hw]) (by rw [f6, h22])
theorem q_coff {S : dk_S} {z : Nat → Int32} {rb sl : Int32} {r N L : Nat} {q : Nat → Nat} (hr : r < 6) (hN1 : 1 ≤ N) (hN : N ≤ 60) (hl : (20 + 8 * z 0).toInt ≤ 99) (hL : L < 2 ^ 31) (hq : ∀ j, j < N → q j ≤ 99) (s31 : S.1 (31 + 2 * r) 1 = nI N) (s32 : ∀ j, j < N → S.1 (32 + 2 * r) j = nI (q j)) (s29 : S.1 29 0 = nI L) (hT : c_T z rb S) :
    ∃ T, fX2_offOf 17 (31 + 2 * r) sl S = some (nI (o_e (fun i => o_d (o_h (c_P z sl rb) (q 0) i) (q i)) L (N - 1) 1 0), T) ∧ c_T z rb T ∧ (∀ w, ¬ w = 17 → T.1 w = S.1 w) ∧ T.2 = S.2 := by
  unfold fX2_offOf
  rw [q_begin, some_bind', show 31 + 2 * r + 1 = 32 + 2 * r by omega, s32 0 (by omega)]
  obtain ⟨T, t1, t2, t3, t4⟩ := e_coff (S0 := S) (z := z) (rb := rb) (sl := sl) (c := upd (S.1 17) 3 sl) (p0 := q 0) (L := L) (q := q) hr hN (upd_same _ _ _) hl (hq 0 (by omega)) hL hq s31 s32 s29 dk_FU 1 0 0 0 0 (dk_sr S 17 (c_row (upd (S.1 17) 3 sl) (nI (q 0)) 0 (nI 0) 0 0 0)) (by omega) hN1 (by have := dk_FU_ge; omega) (by omega) (by omega) hT.row (dk_sr_same _ _ _) (fun w hw => dk_sr_ne _ _ hw) rfl
  exact ⟨T, t1, t2, t3, t4⟩
/-- the model's -/
theorem e_moff {S0 : dk_S} {z : Nat → Int32} {rb sl : Int32} {c : Nat → Int32} {r N p0 : Nat} {q : Nat → Nat} (hr : r < 6) (hN : N ≤ 60) (hok : a_ok z) (hp0 : p0 ≤ 99) (hq : ∀ j, j < N → q j ≤ 99) (s84 : S0.1 84 r = nI N) (s85 : ∀ j, j < N → S0.1 85 (60 * r + j) = nI (q j)) : ∀ (m i a : Nat) (lo we : Int32) (S : dk_S), 1 ≤ i → i ≤ N → N - i < m → m_T z rb sl 0 0 S → S.1 82 = m_row c (t_s (c_P z sl rb) (nI p0) (i - 1)).1 (t_s (c_P z sl rb) (nI p0) (i - 1)).2.1 (t_s (c_P z sl rb) (nI p0) (i - 1)).2.2 lo we → m_sm S0 S →
    ∃ T, fX9_offTocks_L36 (nI r) m (nI a) (nI i) S = some (nI (o_f (fun i => o_d (o_h (c_P z sl rb) p0 i) (q i)) (N - i) i a), T) ∧ m_T z rb sl 0 0 T ∧ m_sm S0 T := by
  intro m
  induction m with
  | zero => intro i a lo we S h0 h1 h2; omega
  | succ m ih =>
    intro i a lo we S h0 h1 h2 hT hrow hsm
    rw [fX9_offTocks_L36, dI_in hr (by omega), dk_gd_t, nI_clamp (by omega), hsm.1 84 (by omega) (by omega), s84]
    by_cases hi : i = N
    · subst hi
      rw [if_pos (Int32.le_refl _), Nat.sub_self]
      exact ⟨S, rfl, hT, hsm⟩
    · rw [if_neg (fun g => by have := (nI_leI (by omega) (by omega)).mp g; omega), show N - i = (N - (i + 1)) + 1 by omega, o_f]
      obtain ⟨i, rfl⟩ : ∃ i', i = i' + 1 := ⟨i - 1, by omega⟩
      rw [Nat.add_sub_cancel] at hrow
      have hstep : ∃ (A : dk_S) (lo' we' : Int32), (∀ k8 : dk_S → Option (Int32 × dk_S), (if (S.1 82 27) = 0 then (fX9_steps (nI (i + 1) - 1) S).bind (fun r19 => k8 r19) else k8 S) = k8 A) ∧ m_T z rb sl 0 0 A ∧ A.1 82 = m_row c (t_s (c_P z sl rb) (nI p0) (i + 1)).1 (t_s (c_P z sl rb) (nI p0) (i + 1)).2.1 (t_s (c_P z sl rb) (nI p0) (i + 1)).2.2 lo' we' ∧ m_sm S0 A := by
        have h27 : S.1 82 27 = (t_s (c_P z sl rb) (nI p0) i).2.2 := by rw [hrow, m_row_27]
        by_cases g0 : (t_s (c_P z sl rb) (nI p0) i).2.2 = 0
        · rw [g0] at hrow
          have hg : ∀ (p f i lo we : Int32) (j : Nat), j < 25 → (m_row c p f i lo we) j = S.1 82 j := fun p f i lo we j hj => by rw [hrow, m_row_o _ _ _ _ _ _ (by omega), m_row_o _ _ _ _ _ _ (by omega)]
          have hx := x_mst hT hok hrow (t_s_f _ _ _) (show i < 2 ^ 31 by omega)
          rw [← t_s_S g0] at hx
          refine ⟨_, _, _, fun k8 => by rw [h27, if_pos g0, nI_pred, hx, some_bind'], hT.row (hg _ _ _ _ _), dk_sr_same _ _ _, hsm.tr (m_sm.row (hg _ _ _ _ _))⟩
        · exact ⟨S, lo, we, fun k8 => by rw [h27, if_neg g0], hT, by rw [t_s_E g0]; exact hrow, hsm⟩
      obtain ⟨A, lo', we', a1, a2, a3, a4⟩ := hstep
      obtain ⟨o1, o2⟩ := o_h_ok (P := c_P z sl rb) hok.2 hp0 (i + 1)
      have hq1 := hq (i + 1) (by omega)
      rw [dk_lt_eq, a1]
      simp only [dk_lt_eq, q_rowAt hr (show i + 1 < 60 by omega), some_bind']
      rw [a3, m_row_27, m_row_25, o2, a4.1 85 (by omega) (by omega), s85 _ (by omega)]
      have hd : ∀ k12 : Int32 → Option (Int32 × dk_S), (if nI (q (i + 1)) ≤ nI (o_h (c_P z sl rb) p0 (i + 1)) then k12 (nI (o_h (c_P z sl rb) p0 (i + 1)) - nI (q (i + 1))) else k12 (nI (q (i + 1)) - nI (o_h (c_P z sl rb) p0 (i + 1)))) = k12 (nI (o_d (o_h (c_P z sl rb) p0 (i + 1)) (q (i + 1)))) := fun k12 => by
        unfold o_d
        by_cases hle : q (i + 1) ≤ o_h (c_P z sl rb) p0 (i + 1)
        · rw [if_pos ((nI_leI (by omega) (by omega)).mpr hle), pk_sub hle, show o_h (c_P z sl rb) p0 (i + 1) - q (i + 1) + (q (i + 1) - o_h (c_P z sl rb) p0 (i + 1)) = o_h (c_P z sl rb) p0 (i + 1) - q (i + 1) by omega]
        · rw [if_neg (fun g => hle ((nI_leI (by omega) (by omega)).mp g)), pk_sub (by omega), show o_h (c_P z sl rb) p0 (i + 1) - q (i + 1) + (q (i + 1) - o_h (c_P z sl rb) p0 (i + 1)) = q (i + 1) - o_h (c_P z sl rb) p0 (i + 1) by omega]
      refine Exists.imp (fun T hT => ⟨((hd (fun v => fX9_offTocks_L36 (nI r) m (nI a + v) (nI (i + 1) + 1) A)).trans ?_).trans hT.1, hT.2⟩) (ih (i + 1 + 1) (a + o_d (o_h (c_P z sl rb) p0 (i + 1)) (q (i + 1))) lo' we' A (by omega) (by omega) (by omega) a2 (by rw [Nat.add_sub_cancel]; exact a3) a4)
      rw [nI_add, nI_1]
theorem q_moff {S : dk_S} {sz : Nat → Int32} {rb sl0 sl ld : Int32} {r N : Nat} {q : Nat → Nat} (hr : r < 6) (hN1 : 1 ≤ N) (hN : N ≤ 60) (hok : a_ok sz) (hq : ∀ j, j < N → q j ≤ 99) (s84 : S.1 84 r = nI N) (s85 : ∀ j, j < N → S.1 85 (60 * r + j) = nI (q j)) (hT : m_T sz rb sl0 0 0 S) :
    ∃ T, fX9_offTocks (nI r) sl ld S = some (nI (o_f (fun i => o_d (o_h (c_P (upd (upd sz 4 ld) 5 0) sl rb) (q 0) i) (q i)) (N - 1) 1 0), T) ∧ m_T (upd (upd sz 4 ld) 5 0) rb sl 0 0 T ∧ m_sm S T := by
  unfold fX9_offTocks
  rw [dk_lt_eq, dk_lt_eq, dk_lt_eq, ← nI_0, q_rowAt hr (by omega), some_bind', q_starts, some_bind', nI_0]
  have hT1 : m_T sz rb sl 0 0 (dk_si S 82 21 sl) := by
    obtain ⟨t1, t2, t3, t4, t5, t6⟩ := hT
    exact ⟨fun j hj => by rw [dk_si_eq, dk_sr_ne _ _ (by omega)]; exact t1 j hj, by rw [dk_si_eq, dk_sr_same, upd_ne _ _ (by omega)]; exact t2, by rw [dk_si_eq, dk_sr_same, upd_same], by rw [dk_si_eq, dk_sr_ne _ _ (by omega)]; exact t4, by rw [dk_si_eq, dk_sr_ne _ _ (by omega)]; exact t5, by rw [dk_si_eq, dk_sr_same, upd_ne _ _ (by omega)]; exact t6⟩
  have hs1 : m_sm S (dk_si S 82 21 sl) := ⟨fun p _ hp => by rw [dk_si_eq, dk_sr_ne _ _ hp], rfl, fun j hj => by rw [dk_si_eq, dk_sr_same, upd_ne _ _ (by omega)]⟩
  have hT3 := (hT1.set 4 ld).set 5 0
  have hs3 : m_sm S (dk_si (dk_si (dk_si S 82 21 sl) 95 4 ld) 95 5 0) := (hs1.tr (m_sm.si (by omega))).tr (m_sm.si (by omega))
  obtain ⟨A, hA⟩ : ∃ A, A = dk_si (dk_si (dk_si S 82 21 sl) 95 4 ld) 95 5 0 := ⟨_, rfl⟩
  rw [← hA] at hT3 hs3 ⊢
  clear hA hs1 hT1
  have hok2 : a_ok (upd (upd sz 4 ld) 5 0) := by
    unfold a_ok at hok ⊢
    simp (disch := omega) only [upd_ne]
    exact hok
  have hg : ∀ (p : Int32) (j : Nat), j < 25 → (m_row (A.1 82) p 0 0 0 0) j = A.1 82 j := fun p j hj => m_row_o _ _ _ _ _ _ (by omega)
  rw [hs3.1 85 (by omega) (by omega), s85 0 (by omega)]
  obtain ⟨T, t1, t2, t3⟩ := e_moff (S0 := S) (z := upd (upd sz 4 ld) 5 0) (rb := rb) (sl := sl) (c := A.1 82) (p0 := q 0) hr hN hok2 (hq 0 (by omega)) hq s84 s85 dk_FU 1 0 0 0 (dk_sr A 82 (m_row (A.1 82) (nI (q 0)) 0 0 0 0)) (by omega) hN1 (by have := dk_FU_ge; omega) (hT3.row (hg _)) (dk_sr_same _ _ _) (hs3.tr (m_sm.row (hg _)))
  exact ⟨T, t1, t2, t3⟩
