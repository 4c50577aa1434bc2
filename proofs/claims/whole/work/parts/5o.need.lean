/-! limp, odds: the tocks that are wanted -/
def a_ll (f : Nat → Bool) : Nat → Nat → Bool
  | 0, _ => true
  | k + 1, s => f s && a_ll f k (s + 1)
theorem a_ll_of {f : Nat → Bool} : ∀ (k s : Nat), a_ll f k s = true → ∀ j, s ≤ j → j < s + k → f j = true := by
  intro k
  induction k with
  | zero => intro s h j h1 h2; omega
  | succ k ih =>
    intro s h j h1 h2
    rw [a_ll, Bool.and_eq_true] at h
    by_cases hj : j = s
    · subst hj; exact h.1
    · exact ih (s + 1) h.2 j (by omega) (by omega)
def r_ok (S : dk_S) (r j : Nat) : Bool := decide (0 ≤ S.1 85 (60 * r + j) ∧ S.1 85 (60 * r + j) ≤ 99)
theorem e_ref {S0 : dk_S} {r N : Nat} (hr : r < 6) (hN : N ≤ 60) (hR : i_R S0) (hsz : S0.1 84 r = nI N) : ∀ (m i : Nat) (S : dk_S), i ≤ N → N - i < m → S.1 (31 + 2 * r) = S0.1 (31 + 2 * r) → S.1 (32 + 2 * r) = S0.1 (32 + 2 * r) → fX8_refusalOfTocks_L72 (nI r) m (nI i) S = if a_ll (r_ok S0 r) (N - i) i = true then some (0, S) else some (-3, q_fnd S 3) := by
  obtain ⟨b1, -, b3⟩ := hR r hr
  intro m
  induction m with
  | zero => intro i S h1 h2; omega
  | succ m ih =>
    intro i S h1 h2 e1 e2
    rw [fX8_refusalOfTocks_L72, dI_in hr (by omega), dk_gd_t, nI_clamp (by omega), e1, b1, hsz]
    by_cases hi : i = N
    · subst hi
      rw [if_pos (Int32.le_refl _), Nat.sub_self]
      rfl
    · rw [if_neg (fun q => by have := (nI_leI (by omega) (by omega)).mp q; omega), dk_gd_t, dI_in (by omega) (by omega), dk_gd_t, nI_clamp (by omega), show 31 + 2 * r + 1 = 32 + 2 * r by omega, e2, b3 i (by omega), q_noPace, some_bind', show N - i = (N - (i + 1)) + 1 by omega, a_ll, nI_1]
      unfold r_ok
      by_cases hp : 0 ≤ S0.1 85 (60 * r + i) ∧ S0.1 85 (60 * r + i) ≤ 99
      · simp only [if_pos hp, if_true, decide_eq_true hp, Bool.true_and]
        exact ih (i + 1) S (by omega) (by omega) e1 e2
      · simp only [if_neg hp, i_10, if_false, decide_eq_false hp, Bool.false_and, Bool.false_eq_true]
        rw [q_found3, some_bind']
theorem e_mref {G : dk_S} {r N : Nat} {x1 x2 : Int32} (hr : r < 6) (hN : N ≤ 60) (hsz : G.1 84 r = nI N) (kx : (Int32 × dk_S) → Option (Int32 × dk_S)) : ∀ (m i : Nat) (g : Bool), i ≤ N → N - i < m → fX9_needTocks_L78 x1 x2 (nI r) kx m (k_b g) (nI i) G = kx (k_b (g && a_ll (r_ok G r) (N - i) i), G) := by
  intro m
  induction m with
  | zero => intro i g h1 h2; omega
  | succ m ih =>
    intro i g h1 h2
    rw [fX9_needTocks_L78, dI_in hr (by omega), dk_gd_t, nI_clamp (by omega), hsz]
    by_cases hi : i = N
    · subst hi
      rw [if_pos (Int32.le_refl _), Nat.sub_self]
      cases g <;> rfl
    · rw [if_neg (fun q => by have := (nI_leI (by omega) (by omega)).mp q; omega), show N - i = (N - (i + 1)) + 1 by omega, a_ll]
      simp only [dk_lt_eq, nI_1]
      cases g with
      | false =>
        rw [if_pos k_b_f]
        have := ih (i + 1) false (by omega) (by omega)
        rw [show k_b false = 0 from rfl] at this
        rw [this]
        rfl
      | true =>
        rw [if_neg k_b_t, q_rowAt hr (by omega), some_bind', q_in, some_bind']
        unfold r_ok
        by_cases hp : 0 ≤ G.1 85 (60 * r + i) ∧ G.1 85 (60 * r + i) ≤ 99
        · simp only [if_pos hp, i_10, if_false, decide_eq_true hp, Bool.true_and]
          have := ih (i + 1) true (by omega) (by omega)
          rw [show k_b true = 1 from rfl, Bool.true_and] at this
          rw [this]
          rfl
        · simp only [if_neg hp, if_true, decide_eq_false hp, Bool.true_and, Bool.false_and]
          have := ih (i + 1) false (by omega) (by omega)
          rw [show k_b false = 0 from rfl, Bool.false_and] at this
          rw [this]
/-- what class and model say of tocks -/
def h_tk (n : Nat) (S : dk_S) (k l r : Nat) : Prop :=
    (∃ (N : Nat) (S1 : dk_S) (sz : Nat → Int32) (rb : Int32), 2 ≤ N ∧ N ≤ 60 ∧ S.1 84 r = nI N ∧ fX8_refusalOfTocks (nI k) (nI l) (nI r) S = some (0, S1) ∧ c_T sz rb S1 ∧ c_sm S S1 ∧ S1.2 = S.2 ∧ i_sz sz ∧ (∀ j, j < N → ∃ p, p ≤ 99 ∧ S.1 85 (60 * r + j) = nI p) ∧ (∀ G : dk_S, (∀ q, 82 < q → G.1 q = S.1 q) → ∃ S2, fX9_needTocks (nI k) (nI l) (nI r) G = some (0, S2) ∧ m_T sz rb 0 0 0 S2 ∧ m_sm G S2)) ∨
    (∃ (f : Nat) (S1 : dk_S), f < 6 ∧ fX8_refusalOfTocks (nI k) (nI l) (nI r) S = some (-3, q_fnd S1 f) ∧ c_sm S S1 ∧ S1.2 = S.2 ∧ fX9_needTocks (nI k) (nI l) (nI r) (q_fnd S1 f) = some (-3, q_nts (q_fnd S1 f) f))
theorem h_tocks {n : Nat} {S : dk_S} {k l r : Nat} (hI : dk_I n S) (hk : k < 4) (hl : l < 4) (hr : r < 6) : h_tk n S k l r := by
  obtain ⟨hA, ⟨hR, hT, hW, hB, hK⟩, hS⟩ := hI
  obtain ⟨w1, w2, w3, w4, w5, w6⟩ := hW k hk
  obtain ⟨b1, b2, b3, b4⟩ := hB l hl
  obtain ⟨r1, r2, r3⟩ := hR r hr
  have g1 : (0 ≤ nI k ∧ nI k ≤ 3) := ⟨nI_ge0 (by omega), (nI_leI (b := 3) (by omega) (by omega)).mpr (by omega)⟩
  have g2 : (0 ≤ nI l ∧ nI l ≤ 3) := ⟨nI_ge0 (by omega), (nI_leI (b := 3) (by omega) (by omega)).mpr (by omega)⟩
  have g3 : (0 ≤ nI r ∧ nI r ≤ 5) := ⟨nI_ge0 (by omega), (nI_leI (b := 5) (by omega) (by omega)).mpr (by omega)⟩
  have hC : fX8_refusalOfTocks (nI k) (nI l) (nI r) S = (fX5_isMissing (31 + 2 * r) S).bind (fun r8 => if r8.1 = 0 then (fX8_isReady (nI k) (nI l) r8.2).bind (fun r11 => if r11.1 = 0 then (fX8_found 1 r11.2).bind (fun r22 => some (r22.1, r22.2)) else (if 2 ≤ (r11.2.1 (31 + 2 * r) 1) then fX8_refusalOfTocks_L72 (nI r) dk_FU 0 r11.2 else (fX8_found 5 r11.2).bind (fun r21 => some (r21.1, r21.2)))) else (fX8_found 1 r8.2).bind (fun r10 => some (r10.1, r10.2))) := by
    unfold fX8_refusalOfTocks
    simp only [q_noWalker, q_noBoard, q_noRow, some_bind', if_pos g1, if_pos g2, if_pos g3, if_true, dI_in hr (show (6 : Nat) < 2 ^ 31 by omega), dk_gd_t, nI_clamp (show r < 2 ^ 31 by omega)]
  have hM : ∀ G : dk_S, fX9_needTocks (nI k) (nI l) (nI r) G = (if (G.1 89 k) = 0 then (fX9_notes 1 G).bind (fun r8 => some (r8.1, r8.2)) else (if (G.1 91 l) = 0 then (fX9_notes 1 G).bind (fun r10 => some (r10.1, r10.2)) else (if 0 ≤ (G.1 84 r) then (if 2 ≤ (G.1 84 r) then fX9_needTocks_L78 (nI k) (nI l) (nI r) (fun t13 : Int32 × dk_S => if t13.1 = 0 then (fX9_notes 3 t13.2).bind (fun r16 => some (r16.1, r16.2)) else (fX9_looksAt (nI k) (nI l) 0 t13.2).bind (fun r15 => some (0, r15))) dk_FU 1 0 G else (fX9_notes 5 G).bind (fun r26 => some (r26.1, r26.2))) else (fX9_notes 1 G).bind (fun r27 => some (r27.1, r27.2))))) := fun G => by
    unfold fX9_needTocks
    simp only [q_isPlace, q_isRow, some_bind', if_pos g1, if_pos g2, if_pos g3, i_10, if_false, dI_in hk (show (4 : Nat) < 2 ^ 31 by omega), dI_in hl (show (4 : Nat) < 2 ^ 31 by omega), dI_in hr (show (6 : Nat) < 2 ^ 31 by omega), dk_gd_t, nI_clamp (show k < 2 ^ 31 by omega), nI_clamp (show l < 2 ^ 31 by omega), nI_clamp (show r < 2 ^ 31 by omega)]
  -- nothing there
  have hM1 : (S.1 89 k = 0 ∨ S.1 91 l = 0 ∨ S.1 84 r = -1) → fX9_needTocks (nI k) (nI l) (nI r) (q_fnd S 1) = some (-3, q_nts (q_fnd S 1) 1) := fun h => by
    rw [hM, q_notes1, some_bind', q_fnd_ne _ _ (by omega) (by omega), q_fnd_ne _ _ (by omega) (by omega), q_fnd_ne _ _ (by omega) (by omega)]
    by_cases h1 : S.1 89 k = 0
    · rw [if_pos h1]
    · rw [if_neg h1]
      by_cases h2 : S.1 91 l = 0
      · rw [if_pos h2]
      · rw [if_neg h2]
        have h3 : S.1 84 r = -1 := by
          rcases h with h | h | h
          · exact absurd h h1
          · exact absurd h h2
          · exact h
        rw [h3, if_neg (by decide)]
  rw [q_miss5, some_bind', r1] at hC
  rcases r2 with r2 | ⟨N, hN, r2⟩
  · rw [r2] at hC
    rw [if_pos (show (-1 : Int32) < 0 by decide), if_neg (show ¬ (1 : Int32) = 0 by decide), q_found1, some_bind'] at hC
    exact Or.inr ⟨1, S, by omega, hC, c_sm.rf S, rfl, hM1 (Or.inr (Or.inr r2))⟩
  · rw [r2, if_neg (nI_pos (by omega)), if_pos rfl] at hC
    dsimp only at hC
    rcases q_isReady hk hl hW hB with ⟨e1, e2, S1, e3, e4, e5, e6, e7⟩ | ⟨e1, e3⟩
    · rw [e3, some_bind', if_neg (show ¬ (1 : Int32) = 0 by decide)] at hC
      dsimp only at hC
      rw [e5.1 (31 + 2 * r) (by omega), r1, r2] at hC
      by_cases h2 : 2 ≤ N
      · have h2' : (2 : Int32) ≤ nI N := (nI_leI (a := 2) (by omega) (by omega)).mpr h2
        have hl2 := e_ref hr hN hR r2 dk_FU 0 S1 (by omega) (by have := dk_FU_ge; omega) (e5.1 _ (by omega)) (e5.1 _ (by omega))
        rw [nI_0, Nat.sub_zero] at hl2
        rw [if_pos h2', hl2] at hC
        have hMG : ∀ G : dk_S, (∀ q, 82 < q → ¬ q = 83 → G.1 q = S.1 q) → fX9_needTocks (nI k) (nI l) (nI r) G = if a_ll (r_ok S r) N 0 = true then (fX9_looksAt (nI k) (nI l) 0 G).bind (fun r15 => some (0, r15)) else some (-3, q_nts G 3) := fun G hG => by
          have e85 : r_ok G r = r_ok S r := by funext j; unfold r_ok; rw [hG 85 (by omega) (by omega)]
          rw [hM, hG 89 (by omega) (by omega), hG 91 (by omega) (by omega), hG 84 (by omega) (by omega), e1, e2, r2, if_neg (show ¬ (1 : Int32) = 0 by decide), if_neg (show ¬ (1 : Int32) = 0 by decide), if_pos (nI_ge0 (by omega)), if_pos h2']
          have hq := e_mref (G := G) (x1 := nI k) (x2 := nI l) hr hN (by rw [hG 84 (by omega) (by omega)]; exact r2) (fun t13 : Int32 × dk_S => if t13.1 = 0 then (fX9_notes 3 t13.2).bind (fun r16 => some (r16.1, r16.2)) else (fX9_looksAt (nI k) (nI l) 0 t13.2).bind (fun r15 => some (0, r15))) dk_FU 0 true (by omega) (by have := dk_FU_ge; omega)
          rw [nI_0, Nat.sub_zero, e85, Bool.true_and, show k_b true = 1 from rfl] at hq
          rw [hq]
          dsimp only
          cases a_ll (r_ok S r) N 0 with
          | true => rw [if_neg k_b_t, if_pos rfl]
          | false => rw [if_pos k_b_f, if_neg (show ¬ (false = true) by decide), q_notes3, some_bind']
        cases hall : a_ll (r_ok S r) N 0 with
        | true =>
          rw [hall, if_pos rfl] at hC
          refine Or.inl ⟨N, S1, _, _, h2, hN, r2, hC, e4, e5, e6, w6 e1, fun j hj => ?_, fun G hG => ?_⟩
          · have := of_decide_eq_true (a_ll_of N 0 hall j (by omega) (by omega))
            exact dI_of (n := 99) (by omega) this.1 this.2
          · obtain ⟨S2, p1, p2, p3, -⟩ := q_looksAt (S := G) hk hl 0
            refine ⟨S2, by rw [hMG G (fun q h _ => hG q h), hall, if_pos rfl, p1, some_bind'], ?_, p3⟩
            rw [hG 90 (by omega), hG 92 (by omega)] at p2
            obtain ⟨t1, t2, t3⟩ := p2
            exact ⟨fun j hj => by rw [t1 j hj]; exact (w3 j hj).symm, by rw [t2]; exact (b3 e2).1.symm, t3⟩
        | false =>
          rw [hall, if_neg (show ¬ (false = true) by decide)] at hC
          refine Or.inr ⟨3, S1, by omega, hC, e5, e6, ?_⟩
          rw [hMG _ (fun q h _ => by rw [q_fnd_ne _ _ (by omega) (by omega)]; exact e5.1 q (by omega)), hall, if_neg (show ¬ (false = true) by decide)]
      · have h2' : ¬ (2 : Int32) ≤ nI N := fun q => h2 ((nI_leI (a := 2) (by omega) (by omega)).mp q)
        rw [if_neg h2', q_found5, some_bind'] at hC
        refine Or.inr ⟨5, S1, by omega, hC, e5, e6, ?_⟩
        rw [hM, q_fnd_ne _ _ (by omega) (by omega), q_fnd_ne _ _ (by omega) (by omega), q_fnd_ne _ _ (by omega) (by omega), e5.1 89 (by omega), e5.1 91 (by omega), e5.1 84 (by omega), e1, e2, r2, if_neg (show ¬ (1 : Int32) = 0 by decide), if_neg (show ¬ (1 : Int32) = 0 by decide), if_pos (nI_ge0 (by omega)), if_neg h2', q_notes5, some_bind']
    · rw [e3, some_bind', if_pos rfl, q_found1, some_bind'] at hC
      refine Or.inr ⟨1, S, by omega, hC, c_sm.rf S, rfl, hM1 ?_⟩
      rcases w2 with w2 | w2
      · exact Or.inl w2
      · rcases b2 with b2 | b2
        · exact Or.inr (Or.inl b2)
        · exact absurd ⟨w2, b2⟩ e1
theorem h_tk_bad {a1 a2 a3 : Int32} (h : ¬ ((0 ≤ a1 ∧ a1 ≤ 3) ∧ (0 ≤ a2 ∧ a2 ≤ 3) ∧ (0 ≤ a3 ∧ a3 ≤ 5))) (S : dk_S) : fX8_refusalOfTocks a1 a2 a3 S = some (-1, S) ∧ fX9_needTocks a1 a2 a3 S = some (-1, S) := by
  unfold fX8_refusalOfTocks fX9_needTocks
  simp only [q_noWalker, q_noBoard, q_noRow, q_isPlace, q_isRow, some_bind']
  by_cases g1 : 0 ≤ a1 ∧ a1 ≤ 3
  · by_cases g2 : 0 ≤ a2 ∧ a2 ≤ 3
    · by_cases g3 : 0 ≤ a3 ∧ a3 ≤ 5
      · exact absurd ⟨g1, g2, g3⟩ h
      · simp only [if_pos g1, if_pos g2, if_neg g3, i_10, if_false, if_true, and_self]
    · simp only [if_pos g1, if_neg g2, i_10, if_false, if_true, and_self]
  · simp only [if_neg g1, i_10, if_false, if_true, and_self]
