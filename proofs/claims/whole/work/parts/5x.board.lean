/-! board, fault -/
theorem x_p_2 {b : Nat → Int32} {N i many : Nat} (h0 : ¬ (x_p b N i many).1 = 0) (h1 : ¬ (x_p b N i many).1 = 1) : many < 8 ∧ x_is b N (i + 1) 0 := by
  unfold x_p at h0 h1
  by_cases c1 : b i = 117
  · rw [if_pos c1] at h0 h1
    by_cases f1 : i + 1 < N ∧ nI (48 + 0) ≤ b (i + 1) ∧ b (i + 1) ≤ 57
    · rw [if_pos f1] at h1; exact absurd rfl h1
    · rw [if_neg f1] at h0; exact absurd rfl h0
  · rw [if_neg c1] at h0 h1
    by_cases c2 : b i = 98
    · rw [if_pos c2] at h0 h1
      by_cases c3 : 8 ≤ many
      · rw [if_pos c3] at h0; exact absurd rfl h0
      · rw [if_neg c3] at h0 h1
        by_cases f1 : i + 1 < N ∧ nI (48 + 0) ≤ b (i + 1) ∧ b (i + 1) ≤ 57
        · exact ⟨by omega, f1⟩
        · rw [if_neg f1] at h0; exact absurd rfl h0
    · rw [if_neg c2] at h0; exact absurd rfl h0
def f_p (b : Nat → Int32) (N : Nat) : Nat → Nat → Int32 → (Nat → Int32) → Nat → Int32 × Int32 × (Nat → Int32) × Nat
  | 0, _, rb, bm, mn => (-9, rb, bm, mn)
  | k + 1, i, rb, bm, mn => if N ≤ i then (-9, rb, bm, mn) else if b i = 32 then f_p b N k (i + 1) rb bm mn else if (x_p b N i mn).1 = 0 then (nI (x_p b N i mn).2, rb, bm, mn) else if (x_p b N i mn).1 = 1 then f_p b N k (x_p b N i mn).2 (b (i + 1) - 48) bm mn else f_p b N k (x_p b N i mn).2 rb (upd bm (x_st b N i).toNatClampNeg (bm (x_st b N i).toNatClampNeg + (b (x_at b N i + 1) - 48))) (mn + 1)
theorem q_rpend {k1 m : Nat} {x n : Int32} {S : dk_S} (h : ¬ S.1 11 3 = -9) : fX4_readPlank_L22 k1 (m + 1) x n S = some (S.1 11 3, S) := by
  rw [fX4_readPlank_L22]
  by_cases h1 : 80 ≤ n
  · rw [if_pos h1]
  · rw [if_neg h1]
    by_cases h2 : S.1 k1 1 ≤ x
    · rw [if_pos h2]
    · rw [if_neg h2, if_neg h]
theorem e_crp {t N : Nat} {b : Nat → Int32} : ∀ (k m n i : Nat) (rb : Int32) (bm : Nat → Int32) (mn : Nat) (S : dk_S), N - i < k → k ≤ m → n ≤ i → i ≤ 1000 → mn ≤ 8 → x_T t N b S → S.1 14 1 = rb → (∀ j, j < 100 → S.1 15 j = bm j) → S.1 11 2 = nI mn → S.1 11 3 = -9 →
    ∃ T, fX4_readPlank_L22 (43 + 2 * t) m (nI i) (nI n) S = some ((f_p b N k i rb bm mn).1, T) ∧ c_rd S T ∧ T.1 14 1 = (f_p b N k i rb bm mn).2.1 ∧ (∀ j, j < 100 → T.1 15 j = (f_p b N k i rb bm mn).2.2.1 j) ∧ T.1 11 2 = nI (f_p b N k i rb bm mn).2.2.2 := by
  intro k
  induction k with
  | zero => intro m n i rb bm mn S h1; omega
  | succ k ih =>
    intro m n i rb bm mn S h1 h2 h3 hi1 hmn hT hrb hbm h112 h9
    have hN := hT.2.1
    obtain ⟨m, rfl⟩ : ∃ m', m = m' + 1 := ⟨m - 1, by omega⟩
    rw [fX4_readPlank_L22, f_p, h9, hT.2.2.2.1]
    by_cases hi : N ≤ i
    · rw [if_pos hi]
      refine ⟨S, ?_, ⟨fun _ _ => rfl, rfl⟩, hrb, hbm, h112⟩
      by_cases h80 : (80 : Int32) ≤ nI n
      · rw [if_pos h80]
      · rw [if_neg h80]
        rw [if_pos ((nI_leI (by omega) (by omega)).mpr hi)]
    · rw [if_neg hi, if_neg (show ¬ (80 : Int32) ≤ nI n from fun q => by have := (nI_leI (a := 80) (by omega) (by omega)).mp q; omega), if_neg (fun q => by have := (nI_leI (by omega) (by omega)).mp q; omega), if_pos rfl, q_sign hT (by omega), some_bind', dk_lt_eq]
      dsimp only
      rw [if_pos (show i < N by omega)]
      simp only [nI_1, dk_lt_eq]
      by_cases h32 : b i = 32
      · rw [if_pos h32, if_pos h32]
        exact ih m (n + 1) (i + 1) rb bm mn S (by omega) (by omega) (by omega) (by omega) hmn hT hrb hbm h112 h9
      · rw [if_neg h32, if_neg h32]
        obtain ⟨A, a1, a2, a3, a4⟩ := q_cit hT (show i < N by omega) hmn h112
        have hx := a1 (fun t8 : Int32 × dk_S => fX4_readPlank_L22 (43 + 2 * t) m t8.1 (nI (n + 1)) t8.2)
        dsimp only at hx
        rw [hx]
        obtain ⟨p1, p2, p3⟩ := x_p_le b N i mn (by omega)
        by_cases g0 : (x_p b N i mn).1 = 0
        · rw [if_pos g0]
          have hA := a2 g0
          obtain ⟨m, rfl⟩ : ∃ m', m = m' + 1 := ⟨m - 1, by omega⟩
          have e : A.1 11 3 = nI (x_p b N i mn).2 := by rw [hA, dk_si_eq, dk_sr_same, upd_same]
          refine ⟨A, ?_, by rw [hA]; exact c_rd.si (by omega), by rw [hA, dk_si_eq, dk_sr_ne _ _ (by omega)]; exact hrb, fun j hj => by rw [hA, dk_si_eq, dk_sr_ne _ _ (by omega)]; exact hbm j hj, by rw [hA, dk_si_eq, dk_sr_same, upd_ne _ _ (by omega)]; exact h112⟩
          rw [q_rpend (by rw [e]; exact nI_m9 (by omega)), e]
        · have p3' := p3 g0
          rw [if_neg g0]
          by_cases g1 : (x_p b N i mn).1 = 1
          · rw [if_pos g1]
            have hA := a3 g1
            have hc : c_rd S A := by rw [hA]; exact c_rd.si (by omega)
            obtain ⟨T, t1, t2, t3, t4, t5⟩ := ih m (n + 1) (x_p b N i mn).2 (b (i + 1) - 48) bm mn A (by omega) (by omega) (by omega) (by omega) hmn (hc.T hT) (by rw [hA, dk_si_eq, dk_sr_same, upd_same]) (fun j hj => by rw [hA, dk_si_eq, dk_sr_ne _ _ (by omega)]; exact hbm j hj) (by rw [hA, dk_si_eq, dk_sr_ne _ _ (by omega)]; exact h112) (by rw [hA, dk_si_eq, dk_sr_ne _ _ (by omega)]; exact h9)
            exact ⟨T, t1, hc.tr t2, t3, t4, t5⟩
          · rw [if_neg g1]
            obtain ⟨f1, hA, hm8, -⟩ := a4 g0 g1
            obtain ⟨s, hs, es⟩ := x_st_ok f1
            rw [es, nI_clamp (by omega)] at hA ⊢
            have hc : c_rd S A := by rw [hA]; exact (c_rd.si (by omega)).tr (c_rd.si (by omega))
            obtain ⟨T, t1, t2, t3, t4, t5⟩ := ih m (n + 1) (x_p b N i mn).2 rb (upd bm s (bm s + (b (x_at b N i + 1) - 48))) (mn + 1) A (by omega) (by omega) (by omega) (by omega) (by omega) (hc.T hT) (by rw [hA, dk_si_eq, dk_sr_ne _ _ (by omega), dk_si_eq, dk_sr_ne _ _ (by omega)]; exact hrb) (fun j hj => by rw [hA, dk_si_eq, dk_sr_ne _ _ (by omega), dk_si_eq, dk_sr_same, upd_at, upd_at, hbm j hj, hbm s (by omega)]) (by rw [hA, dk_si_eq, dk_sr_same, upd_same]) (by rw [hA, dk_si_eq, dk_sr_same, upd_ne _ _ (by omega), dk_si_eq, dk_sr_ne _ _ (by omega)]; exact h9)
            exact ⟨T, t1, hc.tr t2, t3, t4, t5⟩
theorem e_mrp {t N : Nat} {b : Nat → Int32} : ∀ (k m i : Nat) (rb : Int32) (bm : Nat → Int32) (mn : Nat) (S : dk_S), N - i < k → k ≤ m → i ≤ 1000 → mn ≤ 8 → x_T t N b S → S.1 94 0 = rb → (∀ j, j < 100 → S.1 94 (1 + j) = bm j) → S.1 82 16 = nI mn → S.1 82 14 = nI i →
    ∃ T, fX9_boardFault_L39 (nI t) m S = some ((f_p b N k i rb bm mn).1, T) ∧ m_rd S T ∧ T.1 94 0 = (f_p b N k i rb bm mn).2.1 ∧ (∀ j, j < 100 → T.1 94 (1 + j) = (f_p b N k i rb bm mn).2.2.1 j) ∧ T.1 82 16 = nI (f_p b N k i rb bm mn).2.2.2 := by
  intro k
  induction k with
  | zero => intro m i rb bm mn S h1; omega
  | succ k ih =>
    intro m i rb bm mn S h1 h2 h3 hmn hT hrb hbm h16 h14
    have hN := hT.2.1
    have ht := hT.1
    obtain ⟨m, rfl⟩ : ∃ m', m = m' + 1 := ⟨m - 1, by omega⟩
    rw [fX9_boardFault_L39, f_p, dI_in ht (by omega), dk_gd_t, nI_clamp (by omega), hT.2.2.1, h14]
    by_cases hi : N ≤ i
    · rw [if_pos hi, if_pos ((nI_leI (by omega) (by omega)).mpr hi)]
      exact ⟨S, rfl, m_rd.rf S, hrb, hbm, h16⟩
    · rw [if_neg hi, if_neg (fun q => by have := (nI_leI (by omega) (by omega)).mp q; omega), q_byte hT (by omega), some_bind']
      dsimp only
      rw [if_pos (show i < N by omega)]
      by_cases h32 : b i = 32
      · rw [if_pos h32, if_pos h32, dk_lt_eq, h14, nI_1]
        have hm : m_rd S (dk_si S 82 14 (nI (i + 1))) := m_rd.s82 (by omega)
        obtain ⟨T, t1, t2, t3, t4, t5⟩ := ih m (i + 1) rb bm mn (dk_si S 82 14 (nI (i + 1))) (by omega) (by omega) (by omega) hmn (hm.T hT) (by rw [dk_si_eq, dk_sr_ne _ _ (by omega)]; exact hrb) (fun j hj => by rw [dk_si_eq, dk_sr_ne _ _ (by omega)]; exact hbm j hj) (by rw [dk_si_eq, dk_sr_same, upd_ne _ _ (by omega)]; exact h16) (by rw [dk_si_eq, dk_sr_same, upd_same])
        exact ⟨T, t1, hm.tr t2, t3, t4, t5⟩
      · rw [if_neg h32, if_neg h32]
        obtain ⟨A, a1, a2, a3, a4, a5⟩ := q_mit hT (show i < N by omega) hmn h14 h16
        obtain ⟨p1, p2, p3⟩ := x_p_le b N i mn (by omega)
        rw [a2, some_bind']
        dsimp only
        by_cases g0 : (x_p b N i mn).1 = 0
        · rw [if_pos g0, if_pos rfl, if_pos g0]
          rw [if_pos g0] at a4
          simp only [if_pos g0] at a5
          exact ⟨A, by rw [a3], a1, by rw [a5]; exact hrb, fun j hj => by rw [a5]; exact hbm j hj, a4⟩
        · have p3' := p3 g0
          rw [if_neg g0, if_neg (show ¬ (1 : Int32) = 0 by decide), if_neg g0]
          rw [if_neg g0] at a4
          simp only [if_neg g0] at a5
          by_cases g1 : (x_p b N i mn).1 = 1
          · rw [if_pos g1]
            rw [if_pos g1] at a4
            simp only [if_pos g1] at a5
            obtain ⟨T, t1, t2, t3, t4, t5⟩ := ih m (x_p b N i mn).2 (b (i + 1) - 48) bm mn A (by omega) (by omega) (by omega) hmn (a1.T hT) (by rw [a5, upd_same]) (fun j hj => by rw [a5, upd_ne _ _ (by omega)]; exact hbm j hj) a4 a3
            exact ⟨T, t1, a1.tr t2, t3, t4, t5⟩
          · rw [if_neg g1]
            rw [if_neg g1] at a4
            simp only [if_neg g1] at a5
            obtain ⟨hm8, f1⟩ := x_p_2 g0 g1
            obtain ⟨s, hs, es⟩ := x_st_ok f1
            rw [es, nI_clamp (by omega)] at a5 ⊢
            obtain ⟨T, t1, t2, t3, t4, t5⟩ := ih m (x_p b N i mn).2 rb (upd bm s (bm s + (b (x_at b N i + 1) - 48))) (mn + 1) A (by omega) (by omega) (by omega) (by omega) (a1.T hT) (by rw [a5, upd_ne _ _ (by omega)]; exact hrb) (fun j hj => by
              rw [a5, upd_at, upd_at, hbm s (by omega)]
              by_cases hjs : j = s
              · rw [if_pos (by omega), if_pos hjs]
              · rw [if_neg (by omega), if_neg hjs]; exact hbm j hj) a4 a3
            exact ⟨T, t1, a1.tr t2, t3, t4, t5⟩
theorem f_p_ok (b : Nat → Int32) (N : Nat) : ∀ (k i u : Nat) (bm : Nat → Int32) (mn : Nat), u ≤ 9 → ∃ v, v ≤ 9 ∧ (f_p b N k i (nI u) bm mn).2.1 = nI v := by
  intro k
  induction k with
  | zero => intro i u bm mn hu; exact ⟨u, hu, rfl⟩
  | succ k ih =>
    intro i u bm mn hu
    rw [f_p]
    by_cases h1 : N ≤ i
    · rw [if_pos h1]; exact ⟨u, hu, rfl⟩
    · rw [if_neg h1]
      by_cases h2 : b i = 32
      · rw [if_pos h2]; exact ih _ _ _ _ hu
      · rw [if_neg h2]
        by_cases g0 : (x_p b N i mn).1 = 0
        · rw [if_pos g0]; exact ⟨u, hu, rfl⟩
        · rw [if_neg g0]
          by_cases g1 : (x_p b N i mn).1 = 1
          · rw [if_pos g1]
            have hx : x_is b N (i + 1) 0 := by
              unfold x_p at g1
              by_cases c1 : b i = 117
              · rw [if_pos c1] at g1
                by_cases f1 : i + 1 < N ∧ nI (48 + 0) ≤ b (i + 1) ∧ b (i + 1) ≤ 57
                · exact f1
                · rw [if_neg f1] at g1; exact absurd g1 (show ¬ (0 : Nat) = 1 by decide)
              · exfalso
                rw [if_neg c1] at g1
                revert g1
                repeat' split
                all_goals (intro q; dsimp only at q; omega)
            obtain ⟨v, -, v2, v3, -⟩ := x_is_v (by omega) hx
            rw [v3]
            exact ih _ _ _ _ v2
          · rw [if_neg g1]; exact ih _ _ _ _ hu
theorem q_readPlank {t N : Nat} {b : Nat → Int32} {S : dk_S} (h : x_T t N b S) : ∃ T, fX4_readPlank (43 + 2 * t) S = some ((f_p b N (N + 1) 0 (nI 1) (fun _ => 0) 0).1, T) ∧ c_rd S T ∧ T.1 14 1 = (f_p b N (N + 1) 0 (nI 1) (fun _ => 0) 0).2.1 ∧ (∀ j, j < 100 → T.1 15 j = (f_p b N (N + 1) 0 (nI 1) (fun _ => 0) 0).2.2.1 j) ∧ T.1 11 2 = nI (f_p b N (N + 1) 0 (nI 1) (fun _ => 0) 0).2.2.2 := by
  have hN := h.2.1
  unfold fX4_readPlank
  rw [q_clear, some_bind', dk_lt_eq, dk_lt_eq]
  obtain ⟨A, hA⟩ : ∃ A, A = dk_si (dk_si (dk_sr (dk_sr S (14 + 1) (fun j => if j < 100 then 0 else S.1 (14 + 1) j)) 14 (upd (S.1 14) 1 1)) 11 2 0) 11 3 (-9) := ⟨_, rfl⟩
  rw [← hA]
  have hc : c_rd S A := ⟨fun q hq => by rw [hA]; simp (disch := omega) only [dk_si_eq, dk_sr_ne], by rw [hA]; rfl⟩
  obtain ⟨T, t1, t2, t3, t4, t5⟩ := e_crp (t := t) (N := N) (b := b) (N + 1) dk_FU 0 0 (nI 1) (fun _ => 0) 0 A (by omega) (by have := dk_FU_ge; omega) (by omega) (by omega) (by omega) (hc.T h) (by rw [hA]; simp (disch := omega) only [dk_si_eq, dk_sr_ne, dk_sr_same, upd_same]; rfl) (fun j hj => by rw [hA]; simp (disch := omega) only [dk_si_eq, dk_sr_ne, dk_sr_same]; rw [if_pos hj]) (by rw [hA]; simp (disch := omega) only [dk_si_eq, dk_sr_same, upd_ne, upd_same]; rfl) (by rw [hA]; simp (disch := omega) only [dk_si_eq, dk_sr_same, upd_same])
  exact ⟨T, t1, hc.tr t2, t3, t4, t5⟩
theorem e_bf12 {x1 : Int32} (kx : dk_S → Option (Int32 × dk_S)) : ∀ (m i : Nat) (S : dk_S), i ≤ 101 → 101 - i < m → fX9_boardFault_L12 x1 kx m (nI i) S = kx (dk_sr S 94 (fun j => if i ≤ j ∧ j < 101 then (if j = 0 then 1 else 0) else S.1 94 j)) := by
  intro m
  induction m with
  | zero => intro i S h1 h2; omega
  | succ m ih =>
    intro i S h1 h2
    rw [fX9_boardFault_L12]
    by_cases h : i = 101
    · subst h
      rw [if_pos (show (101 : Int32) ≤ nI 101 from by decide)]
      congr 1
      conv => lhs; rw [← dk_sr_id S 94]
      congr 1
      funext j
      rw [if_neg (by omega)]
    · rw [if_neg (show ¬ (101 : Int32) ≤ nI i from fun q => by have := (nI_leI (a := 101) (by omega) (by omega)).mp q; omega), dk_lt_eq, dI_in (by omega) (by omega), dk_gd_t, dk_lt_eq, nI_clamp (by omega), nI_1, ih (i + 1) _ (by omega) (by omega), dk_si_eq, dk_sr_sr, dk_sr_same]
      congr 2
      have hz : (if nI i = 0 then (1 : Int32) else 0) = (if i = 0 then 1 else 0) := by
        by_cases h0 : i = 0
        · rw [if_pos h0, if_pos (by rw [h0]; rfl)]
        · rw [if_neg h0, if_neg (nI_ne0 (by omega) (by omega))]
      rw [hz]
      funext j
      by_cases hj : j = i
      · subst hj
        rw [if_neg (by omega), upd_same, if_pos (show j ≤ j ∧ j < 101 by omega)]
      · rw [upd_ne _ _ hj]
        by_cases hj2 : i ≤ j ∧ j < 101
        · rw [if_pos hj2, if_pos (show i + 1 ≤ j ∧ j < 101 by omega)]
        · rw [if_neg hj2, if_neg (show ¬ (i + 1 ≤ j ∧ j < 101) by omega)]
theorem q_boardFault {t N : Nat} {b : Nat → Int32} {S : dk_S} (h : x_T t N b S) : ∃ T, fX9_boardFault (nI t) S = some ((f_p b N (N + 1) 0 (nI 1) (fun _ => 0) 0).1, T) ∧ m_rd S T ∧ T.1 94 0 = (f_p b N (N + 1) 0 (nI 1) (fun _ => 0) 0).2.1 ∧ (∀ j, j < 100 → T.1 94 (1 + j) = (f_p b N (N + 1) 0 (nI 1) (fun _ => 0) 0).2.2.1 j) ∧ T.1 82 16 = nI (f_p b N (N + 1) 0 (nI 1) (fun _ => 0) 0).2.2.2 := by
  have hN := h.2.1
  unfold fX9_boardFault
  rw [dk_lt_eq, dk_lt_eq, ← nI_0, e_bf12 _ dk_FU 0 _ (by omega) (by have := dk_FU_ge; omega)]
  obtain ⟨A, hA⟩ : ∃ A, A = dk_sr (dk_si (dk_si S 82 14 (nI 0)) 82 16 (nI 0)) 94 (fun j => if 0 ≤ j ∧ j < 101 then (if j = 0 then 1 else 0) else (dk_si (dk_si S 82 14 (nI 0)) 82 16 (nI 0)).1 94 j) := ⟨_, rfl⟩
  rw [← hA]
  have hc : m_rd S A := by rw [hA]; exact ((m_rd.s82 (by omega)).tr (m_rd.s82 (by omega))).tr (m_rd.r93 (by omega))
  obtain ⟨T, t1, t2, t3, t4, t5⟩ := e_mrp (t := t) (N := N) (b := b) (N + 1) dk_FU 0 (nI 1) (fun _ => 0) 0 A (by omega) (by have := dk_FU_ge; omega) (by omega) (by omega) (hc.T h) (by rw [hA, dk_sr_same, if_pos (by omega), if_pos rfl]; rfl) (fun j hj => by rw [hA, dk_sr_same, if_pos (by omega), if_neg (by omega)]) (by rw [hA, dk_sr_ne _ _ (by omega), dk_si_eq, dk_sr_same, upd_same]) (by rw [hA, dk_sr_ne _ _ (by omega), dk_si_eq, dk_sr_same, upd_ne _ _ (by omega), dk_si_eq, dk_sr_same, upd_same])
  exact ⟨T, t1, hc.tr t2, t3, t4, t5⟩
theorem e_b46 {k : Nat} (hk : k < 4) (kx : dk_S → Option (Int32 × dk_S)) : ∀ (m i : Nat) (S : dk_S), i ≤ 101 → 101 - i < m → fX9_board_L46 (nI k) kx m (nI i) S = kx (dk_sr S 92 (fun j => if 101 * k + i ≤ j ∧ j < 101 * k + 101 then S.1 94 (j - 101 * k) else S.1 92 j)) := by
  intro m
  induction m with
  | zero => intro i S h1 h2; omega
  | succ m ih =>
    intro i S h1 h2
    rw [fX9_board_L46]
    have e1 : (101 : Int32) * nI k + nI i = nI (101 * k + i) := by rw [show (101 : Int32) = nI 101 from rfl, nI_mul, nI_add]
    by_cases h : i = 101
    · subst h
      rw [if_pos (show (101 : Int32) ≤ nI 101 from by decide)]
      congr 1
      conv => lhs; rw [← dk_sr_id S 92]
      congr 1
      funext j
      rw [if_neg (by omega)]
    · rw [if_neg (show ¬ (101 : Int32) ≤ nI i from fun q => by have := (nI_leI (a := 101) (by omega) (by omega)).mp q; omega), e1, dI_in (by omega) (by omega), dk_gd_t, dI_in (by omega) (by omega), dk_gd_t, dk_lt_eq, nI_clamp (by omega), nI_clamp (by omega), nI_1, ih (i + 1) _ (by omega) (by omega), dk_si_eq, dk_sr_sr, dk_sr_same, dk_sr_ne _ _ (by omega)]
      congr 2
      funext j
      by_cases hj : j = 101 * k + i
      · subst hj
        rw [if_neg (by omega), if_pos (by omega), upd_same, show 101 * k + i - 101 * k = i by omega]
      · rw [upd_ne _ _ hj]
        by_cases hj2 : 101 * k + i ≤ j ∧ j < 101 * k + 101
        · rw [if_pos hj2, if_pos (by omega)]
        · rw [if_neg hj2, if_neg (by omega)]
theorem pr_board (a1 : Int32) (a2 : Int32) {n : Nat} {S : dk_S} (hn : n < 512) (hI : dk_I n S) : ∃ (r : Int32) (S1 S2 : dk_S), fX8_board a1 a2 S = some (r, S1) ∧ fX9_board a1 a2 S1 = some (r, S2) ∧ dk_I (n + 1) S2 := by
  unfold fX8_board fX9_board
  simp only [q_noBoard, q_noText, q_isPlace, q_isText, some_bind']
  by_cases h1 : 0 ≤ a1 ∧ a1 ≤ 3
  · by_cases h2 : 0 ≤ a2 ∧ a2 ≤ 3
    · simp only [if_pos h1, if_pos h2, if_true, i_10, if_false]
      obtain ⟨k, hk, rfl⟩ := b_4 h1
      obtain ⟨t, ht, rfl⟩ := b_4 h2
      rw [dI_in ht (by omega), dI_in hk (by omega)]
      simp only [dk_gd_t, nI_clamp (show t < 2 ^ 31 by omega), nI_clamp (show k < 2 ^ 31 by omega), q_miss6, some_bind']
      rcases x_T_of hI ht with ⟨g1, g2⟩ | ⟨N, g1, g2, hT⟩
      · simp only [g2, if_pos (show (-1 : Int32) < 0 by decide), i_10, if_false]
        rw [q_found1, some_bind']
        refine ⟨_, _, _, rfl, ?_, dk_I_fn (f := 1) (by omega) hI⟩
        rw [q_fnd_ne _ _ (by omega) (by omega), g1, if_neg (by decide), q_notes1, some_bind']
      · simp only [hT.2.2.2.1, if_neg (nI_pos (show N < 2 ^ 31 by omega)), if_true]
        obtain ⟨T, t1, t2, t3, t4, t5⟩ := q_readPlank hT
        obtain ⟨u, hu, hFu⟩ := f_p_ok (x_b S t) N (N + 1) 0 1 (fun _ => 0) 0 (by omega)
        have hM : ∀ U : dk_S, x_T t N (x_b S t) U → _ := fun U hU => q_boardFault hU
        generalize f_p (x_b S t) N (N + 1) 0 (nI 1) (fun _ => 0) 0 = F at t1 t3 t4 t5 hFu hM
        rw [t1, some_bind']
        dsimp only
        by_cases h9 : F.1 = -9
        · rw [if_pos h9, q_take3 _ _ _ (by omega), some_bind', dk_lt_eq]
          generalize hU : dk_si (dk_sr (dk_sr T (59 + 2 * k + 1) _) (59 + 2 * k) _) (59 + 2 * k) 2 1 = U
          have u59 : U.1 (59 + 2 * k) = upd (upd (S.1 (59 + 2 * k)) 1 F.2.1) 2 1 := by
            rw [← hU, dk_si_eq, dk_sr_same, dk_sr_same, t2.1 _ (by omega), t3]
          have u60 : ∀ j, j < 100 → U.1 (60 + 2 * k) j = F.2.2.1 j := fun j hj => by
            rw [← hU, dk_si_eq, dk_sr_ne _ _ (by omega), dk_sr_ne _ _ (by omega), show 60 + 2 * k = 59 + 2 * k + 1 by omega, dk_sr_same, if_pos hj]
            exact t4 j hj
          have uo : ∀ q, ¬ (11 ≤ q ∧ q ≤ 15) → ¬ q = 59 + 2 * k → ¬ q = 60 + 2 * k → U.1 q = S.1 q := fun q q1 q2 q3 => by
            rw [← hU, dk_si_eq, dk_sr_ne _ _ q2, dk_sr_ne _ _ q2, dk_sr_ne _ _ (by omega), t2.1 q q1]
          have u11 : U.1 11 2 = nI F.2.2.2 := by
            rw [← hU, dk_si_eq, dk_sr_ne _ _ (by omega), dk_sr_ne _ _ (by omega), dk_sr_ne _ _ (by omega)]; exact t5
          have u2 : U.2 = S.2 := by rw [← hU]; exact t2.2
          clear hU
          have hUT : x_T t N (x_b S t) U := hT.cg (uo _ (by omega) (by omega) (by omega)) (uo _ (by omega) (by omega) (by omega)) (uo _ (by omega) (by omega) (by omega)) (uo _ (by omega) (by omega) (by omega))
          obtain ⟨M, m1, m2, m3, m4, m5⟩ := hM U hUT
          rw [u11]
          obtain ⟨V, hV⟩ : ∃ V, V = dk_si (dk_sr M 92 (fun j => if 101 * k + 0 ≤ j ∧ j < 101 * k + 101 then M.1 94 (j - 101 * k) else M.1 92 j)) 91 k 1 := ⟨_, rfl⟩
          have v91 : V.1 91 = upd (S.1 91) k 1 := by rw [hV, dk_si_eq, dk_sr_same, dk_sr_ne _ _ (by omega), m2.1 91 (by omega) (by omega) (by omega), uo 91 (by omega) (by omega) (by omega)]
          have v92 : ∀ j, V.1 92 j = if 101 * k + 0 ≤ j ∧ j < 101 * k + 101 then M.1 94 (j - 101 * k) else S.1 92 j := fun j => by rw [hV, dk_si_eq, dk_sr_ne _ _ (by omega), dk_sr_same, m2.1 92 (by omega) (by omega) (by omega), uo 92 (by omega) (by omega) (by omega)]
          have vo : ∀ q, ¬ q = 82 → ¬ q = 91 → ¬ q = 92 → ¬ q = 93 → ¬ q = 94 → V.1 q = U.1 q := fun q q1 q2 q3 q4 q5 => by rw [hV, dk_si_eq, dk_sr_ne _ _ q2, dk_sr_ne _ _ q3, m2.1 q q1 q4 q5]
          have v82 : ∀ j, j < 14 → V.1 82 j = S.1 82 j := fun j hj => by rw [hV, dk_si_eq, dk_sr_ne _ _ (by omega), dk_sr_ne _ _ (by omega), m2.2.2 j (by omega) (by omega) (by omega), uo 82 (by omega) (by omega) (by omega)]
          have v16 : V.1 82 16 = nI F.2.2.2 := by rw [hV, dk_si_eq, dk_sr_ne _ _ (by omega), dk_sr_ne _ _ (by omega)]; exact m5
          have v2 : V.2 = S.2 := by rw [hV]; exact m2.2.1.trans u2
          refine ⟨_, U, V, rfl, ?_, ?_⟩
          · rw [uo 87 (by omega) (by omega) (by omega), g1, if_pos (nI_ge0 (by omega)), m1, some_bind', if_pos h9]
            have hl := e_b46 hk (fun t8 : dk_S => dk_lt (dk_si t8 91 k (vp_nar .boolean 1)) (fun S9 => some (S9.1 82 16, S9))) dk_FU 0 M (by omega) (by have := dk_FU_ge; omega)
            rw [nI_0] at hl
            rw [hl, dk_lt_eq, nar_1, ← hV, v16]
          · have vS : ∀ q, ¬ (11 ≤ q ∧ q ≤ 15) → ¬ q = 82 → ¬ q = 91 → ¬ q = 92 → ¬ q = 93 → ¬ q = 94 → ¬ q = 59 + 2 * k → ¬ q = 60 + 2 * k → V.1 q = S.1 q := fun q q1 q2 q3 q4 q5 q6 q7 q8 => by rw [vo q q2 q3 q4 q5 q6, uo q q1 q7 q8]
            refine dk_I_B hI (i_A_wr (vS 0 (by omega) (by omega) (by omega) (by omega) (by omega) (by omega) (by omega) (by omega)) (vS 30 (by omega) (by omega) (by omega) (by omega) (by omega) (by omega) (by omega) (by omega)) v82 (vS 83 (by omega) (by omega) (by omega) (by omega) (by omega) (by omega) (by omega) (by omega)) v2 hI.1) ?_ (fun q hq => vS q (by omega) (by omega) (by omega) (by omega) (by omega) (by omega) (by omega) (by omega)) v2
            intro l hl
            obtain ⟨w1, w2, w3, w4⟩ := hI.2.1.2.2.2.1 l hl
            by_cases hlk : l = k
            · subst hlk
              have x59 : V.1 (59 + 2 * l) = upd (upd (S.1 (59 + 2 * l)) 1 F.2.1) 2 1 := by rw [vo _ (by omega) (by omega) (by omega) (by omega) (by omega), u59]
              refine ⟨by rw [x59, upd_same, v91, upd_same], Or.inr (by rw [v91, upd_same]), fun _ => ⟨?_, u, hu, by rw [x59, upd_ne _ _ (by omega), upd_same, hFu]⟩, fun j hj => ?_⟩
              · rw [x59, upd_ne _ _ (by omega), upd_same, v92, if_pos (by omega), Nat.sub_self, m3]
              · rw [vo _ (by omega) (by omega) (by omega) (by omega) (by omega), u60 j hj, v92, if_pos (by omega), show 101 * l + 1 + j - 101 * l = 1 + j by omega, m4 j hj]
            · have y1 := vS (59 + 2 * l) (by omega) (by omega) (by omega) (by omega) (by omega) (by omega) (by omega) (by omega)
              have y2 := vS (60 + 2 * l) (by omega) (by omega) (by omega) (by omega) (by omega) (by omega) (by omega) (by omega)
              rw [y1, y2, v91, upd_ne _ _ hlk]
              exact ⟨w1, w2, fun q => by rw [v92, if_neg (by omega)]; exact w3 q, fun j hj => by rw [v92, if_neg (by omega)]; exact w4 j hj⟩
        · rw [if_neg h9]
          obtain ⟨M, m1, m2, m3, m4⟩ := hM T (t2.T hT)
          refine ⟨_, _, M, rfl, ?_, an_rd hI t2 m2⟩
          rw [t2.1 87 (by omega), g1, if_pos (nI_ge0 (by omega)), m1, some_bind', if_neg h9]
    · simp only [if_pos h1, if_neg h2, i_10, if_false, if_true]
      exact ⟨_, _, _, rfl, rfl, dk_I_up hI⟩
  · simp only [if_neg h1, i_10, if_false, if_true]
    exact ⟨_, _, _, rfl, rfl, dk_I_up hI⟩
theorem pr_fault (a1 : Int32) (a2 : Int32) {n : Nat} {S : dk_S} (hn : n < 512) (hI : dk_I n S) : ∃ (r : Int32) (S1 S2 : dk_S), fX8_fault a1 (if a2 = 0 then 0 else 1) S = some (r, S1) ∧ fX9_fault a1 (if a2 = 0 then 0 else 1) S1 = some (r, S2) ∧ dk_I (n + 1) S2 := by
  unfold fX8_fault fX9_fault
  simp only [q_noText, q_isText, some_bind']
  by_cases h2 : 0 ≤ a1 ∧ a1 ≤ 3
  · simp only [if_pos h2, if_true, i_10, if_false]
    obtain ⟨t, ht, rfl⟩ := b_4 h2
    rw [dI_in ht (by omega)]
    simp only [dk_gd_t, nI_clamp (show t < 2 ^ 31 by omega), q_miss6, some_bind']
    rcases x_T_of hI ht with ⟨g1, g2⟩ | ⟨N, g1, g2, hT⟩
    · simp only [g2, if_pos (show (-1 : Int32) < 0 by decide), i_10, if_false]
      rw [q_found1, some_bind']
      refine ⟨_, _, _, rfl, ?_, dk_I_fn (f := 1) (by omega) hI⟩
      rw [q_fnd_ne _ _ (by omega) (by omega), g1, if_neg (by decide), q_notes1, some_bind']
    · simp only [hT.2.2.2.1, if_neg (nI_pos (show N < 2 ^ 31 by omega)), if_true]
      by_cases ha : a2 = 0
      · simp only [if_pos ha, if_true]
        obtain ⟨T, t1, t2, -⟩ := q_readDuck hT
        obtain ⟨M, m1, m2, -⟩ := q_walkerFault (t2.T hT)
        rw [t1, some_bind']
        refine ⟨_, _, M, rfl, ?_, an_rd hI t2 m2⟩
        rw [t2.1 87 (by omega), g1, if_pos (nI_ge0 (by omega)), m1, some_bind']
      · simp only [if_neg ha, i_10, if_false]
        obtain ⟨T, t1, t2, -⟩ := q_readPlank hT
        obtain ⟨M, m1, m2, -⟩ := q_boardFault (t2.T hT)
        rw [t1, some_bind']
        refine ⟨_, _, M, rfl, ?_, an_rd hI t2 m2⟩
        rw [t2.1 87 (by omega), g1, if_pos (nI_ge0 (by omega)), m1, some_bind']
  · simp only [if_neg h2, i_10, if_false, if_true]
    exact ⟨_, _, _, rfl, rfl, dk_I_up hI⟩
