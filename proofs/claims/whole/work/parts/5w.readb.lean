/-! reading a board -/
def x_at (b : Nat → Int32) (N i : Nat) : Nat := if (i + 2 < N ∧ nI (48 + 0) ≤ b (i + 2) ∧ b (i + 2) ≤ 57) then i + 3 else i + 2
def x_st (b : Nat → Int32) (N i : Nat) : Int32 := if (i + 2 < N ∧ nI (48 + 0) ≤ b (i + 2) ∧ b (i + 2) ≤ 57) then 10 * (b (i + 1) - 48) + (b (i + 2) - 48) else b (i + 1) - 48
/-- what an item comes to: 0 a fault, 1 a rub, 2 a bump; and the place -/
def x_p (b : Nat → Int32) (N i many : Nat) : Nat × Nat := if b i = 117 then (if (i + 1 < N ∧ nI (48 + 0) ≤ b (i + 1) ∧ b (i + 1) ≤ 57) then (1, i + 2) else (0, i + 1)) else if b i = 98 then (if 8 ≤ many then (0, i) else if (i + 1 < N ∧ nI (48 + 0) ≤ b (i + 1) ∧ b (i + 1) ≤ 57) then (if (x_at b N i < N ∧ b (x_at b N i) = 58) then (if (x_at b N i + 1 < N ∧ nI (48 + 1) ≤ b (x_at b N i + 1) ∧ b (x_at b N i + 1) ≤ 57) then (2, x_at b N i + 2) else (0, x_at b N i + 1)) else (0, x_at b N i)) else (0, i + 1)) else (0, i)
theorem x_at_le (b : Nat → Int32) (N i : Nat) : i + 2 ≤ x_at b N i ∧ x_at b N i ≤ i + 3 := by
  unfold x_at
  by_cases h : i + 2 < N ∧ nI (48 + 0) ≤ b (i + 2) ∧ b (i + 2) ≤ 57
  · rw [if_pos h]; omega
  · rw [if_neg h]; omega
theorem x_p_le (b : Nat → Int32) (N i many : Nat) (hi : i < N) : i ≤ (x_p b N i many).2 ∧ (x_p b N i many).2 ≤ N + 5 ∧ (¬ (x_p b N i many).1 = 0 → i + 2 ≤ (x_p b N i many).2) := by
  have ha := x_at_le b N i
  unfold x_p
  repeat' split
  all_goals (dsimp only; omega)
theorem x_st_ok {b : Nat → Int32} {N i : Nat} (h : x_is b N (i + 1) 0) : ∃ s, s ≤ 99 ∧ x_st b N i = nI s := by
  obtain ⟨v, -, v2, v3, -⟩ := x_is_v (by omega) h
  unfold x_st
  rw [v3]
  by_cases h2 : i + 2 < N ∧ nI (48 + 0) ≤ b (i + 2) ∧ b (i + 2) ≤ 57
  · obtain ⟨w, -, w2, w3, -⟩ := x_is_v (b := b) (N := N) (i := i + 2) (low := 0) (by omega) h2
    rw [if_pos h2, w3, show (10 : Int32) = nI 10 from rfl, nI_mul, nI_add]
    exact ⟨_, by omega, rfl⟩
  · rw [if_neg h2]
    exact ⟨v, by omega, rfl⟩
theorem x_fgv {b : Nat → Int32} {N i low : Nat} (hl : low ≤ 1) (h : x_is b N i low) : x_fg b N i = b i - 48 := by
  obtain ⟨v, -, -, v3, v4⟩ := x_is_v hl h
  rw [v4, v3]
/-- the class's item -/
theorem q_cit {t N i many : Nat} {b : Nat → Int32} {S : dk_S} (h : x_T t N b S) (hi : i < N) (hm : many ≤ 8) (h2 : S.1 11 2 = nI many) :
    ∃ T, (∀ K : (Int32 × dk_S) → Option (Int32 × dk_S), (if b i = 117 then (fX4_readRub (43 + 2 * t) (nI i) S).bind (fun r15 => K (r15.1, r15.2)) else if b i = 98 then (fX4_readBump (43 + 2 * t) (nI i) S).bind (fun r14 => K (r14.1, r14.2)) else K (nI i, dk_si S 11 3 (nI i))) = K (nI (x_p b N i many).2, T)) ∧ ((x_p b N i many).1 = 0 → T = dk_si S 11 3 (nI (x_p b N i many).2)) ∧ ((x_p b N i many).1 = 1 → T = dk_si S 14 1 (b (i + 1) - 48)) ∧ (¬ (x_p b N i many).1 = 0 → ¬ (x_p b N i many).1 = 1 → x_is b N (i + 1) 0 ∧ T = dk_si (dk_si S 15 (x_st b N i).toNatClampNeg (S.1 15 (x_st b N i).toNatClampNeg + (b (x_at b N i + 1) - 48))) 11 2 (nI (many + 1)) ∧ many < 8 ∧ x_is b N (x_at b N i + 1) 1) := by
  have hN := h.2.1
  have e1 : nI i + 1 = nI (i + 1) := nI_1 i
  have e2 : nI i + 2 = nI (i + 2) := by rw [show (2 : Int32) = nI 2 from rfl, nI_add]
  unfold x_p
  by_cases c1 : b i = 117
  · rw [if_pos c1]
    unfold fX4_readRub
    rw [e1, q_fig h (by omega), some_bind', e2]
    dsimp only
    by_cases f1 : x_is b N (i + 1) 0
    · rw [if_pos (x_is0.mpr f1), if_pos (show (i + 1 < N ∧ nI (48 + 0) ≤ b (i + 1) ∧ b (i + 1) ≤ 57) from f1), x_fgv (by omega) f1]
      exact ⟨_, fun K => by rw [if_pos c1]; rfl, fun q => absurd q (show ¬ (1 : Nat) = 0 by decide), fun _ => rfl, fun _ q => absurd rfl q⟩
    · rw [if_neg (fun q => f1 (x_is0.mp q)), if_neg (show ¬ (i + 1 < N ∧ nI (48 + 0) ≤ b (i + 1) ∧ b (i + 1) ≤ 57) from f1)]
      exact ⟨_, fun K => by rw [if_pos c1]; rfl, fun _ => rfl, fun q => absurd q (show ¬ (0 : Nat) = 1 by decide), fun q => absurd rfl q⟩
  · rw [if_neg c1]
    by_cases c2 : b i = 98
    · rw [if_pos c2]
      unfold fX4_readBump
      rw [h2]
      have hlt : (nI many < 8) ↔ many < 8 := nI_ltI (b := 8) (by omega) (by omega)
      by_cases c3 : 8 ≤ many
      · rw [if_pos c3, if_neg (fun q => by have := hlt.mp q; omega)]
        exact ⟨_, fun K => by rw [if_neg c1, if_pos c2]; rfl, fun _ => rfl, fun q => absurd q (show ¬ (0 : Nat) = 1 by decide), fun q => absurd rfl q⟩
      · rw [if_neg c3, if_pos (hlt.mpr (by omega)), dk_lt_eq, e1, q_fig h (by omega), some_bind']
        dsimp only
        by_cases f1 : x_is b N (i + 1) 0
        · rw [if_pos (x_is0.mpr f1), if_pos (show (i + 1 < N ∧ nI (48 + 0) ≤ b (i + 1) ∧ b (i + 1) ≤ 57) from f1), x_fgv (by omega) f1]
          obtain ⟨s, hs, es⟩ := x_st_ok f1
          -- the place behind the step, and the step
          have hk : ∀ (X : (Int32 × Int32 × dk_S) → Option (Int32 × dk_S)), (fX6_figure (43 + 2 * t) (nI (i + 1) + 1) S).bind (fun r5 => if r5.1 < 0 then X (nI (i + 1) + 1, b (i + 1) - 48, r5.2) else (fX6_figure (43 + 2 * t) (nI (i + 1) + 1) r5.2).bind (fun r17 => X ((nI (i + 1) + 1) + 1, (10 * (b (i + 1) - 48)) + r17.1, r17.2))) = X (nI (x_at b N i), x_st b N i, S) := fun X => by
            rw [nI_1, q_fig h (by omega), some_bind']
            dsimp only
            rw [q_fig h (by omega), some_bind', nI_1]
            unfold x_at x_st
            by_cases f2 : x_is b N (i + 2) 0
            · rw [if_pos (show (i + 2 < N ∧ nI (48 + 0) ≤ b (i + 2) ∧ b (i + 2) ≤ 57) from f2), if_pos (show (i + 2 < N ∧ nI (48 + 0) ≤ b (i + 2) ∧ b (i + 2) ≤ 57) from f2), if_neg (i32_nlt.mpr (x_is0.mpr f2))]
              dsimp only
              rw [x_fgv (by omega) f2]
            · rw [if_neg (show ¬ (i + 2 < N ∧ nI (48 + 0) ≤ b (i + 2) ∧ b (i + 2) ≤ 57) from f2), if_neg (show ¬ (i + 2 < N ∧ nI (48 + 0) ≤ b (i + 2) ∧ b (i + 2) ≤ 57) from f2), if_pos (i32_nle.mp (fun q => f2 (x_is0.mp q)))]
          have ha := x_at_le b N i
          simp only [dk_lt_eq]
          have hk2 := hk (fun t6 : Int32 × Int32 × dk_S => ((fX6_sign (43 + 2 * t) t6.1 t6.2.2).bind (fun r8 => if r8.1 = 58 then (fX6_figure (43 + 2 * t) (t6.1 + 1) r8.2).bind (fun r10 => if 1 ≤ r10.1 then dk_gd (dk_in t6.2.1 100) (dk_gd (dk_in t6.2.1 100) (some ((t6.1 + 1) + 1, dk_si (dk_si r10.2 15 t6.2.1.toNatClampNeg ((r10.2.1 15 t6.2.1.toNatClampNeg) + r10.1)) 11 2 (((dk_si r10.2 15 t6.2.1.toNatClampNeg ((r10.2.1 15 t6.2.1.toNatClampNeg) + r10.1)).1 11 2) + 1)))) else (fX4_faultAt (t6.1 + 1) r10.2).bind (fun r14 => some (r14.1, r14.2))) else (fX4_faultAt t6.1 r8.2).bind (fun r15 => some (r15.1, r15.2))) : Option (Int32 × dk_S)))
          dsimp only at hk2
          rw [hk2, q_sign h (by omega), some_bind', es, dI_in (by omega) (by omega), nI_clamp (by omega)]
          simp only [dk_gd_t, nI_1]
          by_cases c4 : x_at b N i < N ∧ b (x_at b N i) = 58
          · rw [if_pos c4, if_pos c4.1, if_pos c4.2, q_fig h (by omega), some_bind']
            dsimp only
            by_cases f3 : x_is b N (x_at b N i + 1) 1
            · rw [if_pos (show (x_at b N i + 1 < N ∧ nI (48 + 1) ≤ b (x_at b N i + 1) ∧ b (x_at b N i + 1) ≤ 57) from f3), if_pos (x_is1.mpr f3), x_fgv (by omega) f3]
              refine ⟨_, fun K => by rw [if_neg c1, if_pos c2, some_bind'], fun q => absurd q (show ¬ 2 = 0 by decide), fun q => absurd q (show ¬ 2 = 1 by decide), fun _ _ => ⟨f1, ?_, by omega, f3⟩⟩
              rw [dk_si_eq S 15, dk_sr_ne _ _ (by omega), h2, nI_1]
            · rw [if_neg (show ¬ (x_at b N i + 1 < N ∧ nI (48 + 1) ≤ b (x_at b N i + 1) ∧ b (x_at b N i + 1) ≤ 57) from f3), if_neg (fun q => f3 (x_is1.mp q))]
              exact ⟨_, fun K => by rw [if_neg c1, if_pos c2]; rfl, fun _ => rfl, fun q => absurd q (show ¬ (0 : Nat) = 1 by decide), fun q => absurd rfl q⟩
          · have h58 : ¬ (if x_at b N i < N then b (x_at b N i) else 1000) = 58 := fun q => by
              by_cases hN1 : x_at b N i < N
              · rw [if_pos hN1] at q; exact c4 ⟨hN1, q⟩
              · rw [if_neg hN1] at q; exact absurd q (by decide)
            rw [if_neg c4, if_neg h58]
            exact ⟨_, fun K => by rw [if_neg c1, if_pos c2]; rfl, fun _ => rfl, fun q => absurd q (show ¬ (0 : Nat) = 1 by decide), fun q => absurd rfl q⟩
        · rw [if_neg (fun q => f1 (x_is0.mp q)), if_neg (show ¬ (i + 1 < N ∧ nI (48 + 0) ≤ b (i + 1) ∧ b (i + 1) ≤ 57) from f1)]
          exact ⟨_, fun K => by rw [if_neg c1, if_pos c2]; rfl, fun _ => rfl, fun q => absurd q (show ¬ (0 : Nat) = 1 by decide), fun q => absurd rfl q⟩
    · rw [if_neg c2]
      exact ⟨_, fun K => by rw [if_neg c1, if_neg c2], fun _ => rfl, fun q => absurd q (show ¬ (0 : Nat) = 1 by decide), fun q => absurd rfl q⟩
/-- the model's item -/
theorem q_mit {t N i many : Nat} {b : Nat → Int32} {S : dk_S} (h : x_T t N b S) (hi : i < N) (hm : many ≤ 8) (h14 : S.1 82 14 = nI i) (h16 : S.1 82 16 = nI many) :
    ∃ T, m_rd S T ∧ fX9_readsBoard (nI t) S = some (if (x_p b N i many).1 = 0 then 0 else 1, T) ∧ T.1 82 14 = nI (x_p b N i many).2 ∧ T.1 82 16 = nI (if (x_p b N i many).1 = 0 then many else if (x_p b N i many).1 = 1 then many else many + 1) ∧ (∀ j, T.1 94 j = if (x_p b N i many).1 = 0 then S.1 94 j else if (x_p b N i many).1 = 1 then upd (S.1 94) 0 (b (i + 1) - 48) j else upd (S.1 94) (1 + (x_st b N i).toNatClampNeg) (S.1 94 (1 + (x_st b N i).toNatClampNeg) + (b (x_at b N i + 1) - 48)) j) := by
  have hN := h.2.1
  unfold fX9_readsBoard
  rw [h14, q_byte h (by omega), some_bind', if_pos hi]
  dsimp only
  simp only [dk_lt_eq]
  unfold x_p
  by_cases c1 : b i = 117
  · have c1' : ¬ b i = 98 := by rw [c1]; decide
    rw [if_pos c1, if_neg c1', if_pos c1, if_pos c1, h14, nI_1]
    obtain ⟨A, hA⟩ : ∃ A, A = dk_si S 82 14 (nI (i + 1)) := ⟨_, rfl⟩
    have hm4 : m_rd S A := by rw [hA]; exact m_rd.s82 (by omega)
    rw [← hA]
    have a14 : A.1 82 14 = nI (i + 1) := by rw [hA, dk_si_eq, dk_sr_same, upd_same]
    have a16 : A.1 82 16 = nI many := by rw [hA, dk_si_eq, dk_sr_same, upd_ne _ _ (by omega)]; exact h16
    have a94 : A.1 94 = S.1 94 := by rw [hA, dk_si_eq, dk_sr_ne _ _ (by omega)]
    clear hA
    obtain ⟨F, f1, f2, f3, f4, f5⟩ := q_mfig (hm4.T h) (show i + 1 < 1000 by omega) (show (0 : Nat) ≤ 1 by omega) a14
    have hmF : m_rd A F := ⟨fun q h1 _ _ => f3 q h1, f5, fun j h1 h2 _ => f4 j h1 h2⟩
    rw [nI_0] at f1 f2
    by_cases hx : x_is b N (i + 1) 0
    · obtain ⟨g1, g2, g3⟩ := f1 hx
      rw [if_pos (show (i + 1 < N ∧ nI (48 + 0) ≤ b (i + 1) ∧ b (i + 1) ≤ 57) from hx), g1, some_bind', if_neg (show ¬ (1 : Int32) = 0 by decide), decide_eq_true (Or.inr rfl), dk_gd_t, g3]
      refine ⟨_, (hm4.tr hmF).tr (m_rd.s9 (by omega)), rfl, ?_, ?_, fun j => ?_⟩
      · rw [dk_si_eq, dk_sr_ne _ _ (by omega)]; exact g2
      · rw [dk_si_eq, dk_sr_ne _ _ (by omega), f4 16 (by omega) (by omega)]; exact a16
      · rw [dk_si_eq, dk_sr_same, f3 94 (by omega), a94]; rfl
    · obtain ⟨g1, g2⟩ := f2 hx
      rw [if_neg (show ¬ (i + 1 < N ∧ nI (48 + 0) ≤ b (i + 1) ∧ b (i + 1) ≤ 57) from hx), g1, some_bind', if_pos rfl, decide_eq_true (Or.inl rfl), dk_gd_t]
      refine ⟨_, (hm4.tr hmF).tr (m_rd.s9 (by omega)), rfl, ?_, ?_, fun j => ?_⟩
      · rw [dk_si_eq, dk_sr_ne _ _ (by omega)]; exact g2
      · rw [dk_si_eq, dk_sr_ne _ _ (by omega), f4 16 (by omega) (by omega)]; exact a16
      · rw [dk_si_eq, dk_sr_same, f3 94 (by omega), a94, upd_at]
        by_cases hj : j = 0
        · rw [if_pos hj, hj]; rfl
        · rw [if_neg hj]; rfl
  · rw [if_neg c1, if_neg c1]
    by_cases c2 : b i = 98
    · rw [if_pos c2, if_pos c2, if_pos c2, h16]
      by_cases c3 : 8 ≤ many
      · rw [if_pos c3, if_pos (show nI many = 8 by rw [show many = 8 by omega]; rfl)]
        rw [if_neg c1]
        exact ⟨S, m_rd.rf S, rfl, h14, h16, fun j => rfl⟩
      · rw [if_neg c3, if_neg (show ¬ nI many = 8 from fun q => by have := (nI_eq (b := 8) (by omega) (by omega)).mp q; omega), if_neg c1, h14, nI_1]
        obtain ⟨A, hA⟩ : ∃ A, A = dk_si S 82 14 (nI (i + 1)) := ⟨_, rfl⟩
        have hm4 : m_rd S A := by rw [hA]; exact m_rd.s82 (by omega)
        rw [← hA]
        have a14 : A.1 82 14 = nI (i + 1) := by rw [hA, dk_si_eq, dk_sr_same, upd_same]
        have a16 : A.1 82 16 = nI many := by rw [hA, dk_si_eq, dk_sr_same, upd_ne _ _ (by omega)]; exact h16
        have a94 : A.1 94 = S.1 94 := by rw [hA, dk_si_eq, dk_sr_ne _ _ (by omega)]
        clear hA
        obtain ⟨F, f1, f2, f3, f4, f5⟩ := q_mfig (hm4.T h) (show i + 1 < 1000 by omega) (show (0 : Nat) ≤ 1 by omega) a14
        have hmF : m_rd S F := hm4.tr ⟨fun q h1 _ _ => f3 q h1, f5, fun j h1 h2 _ => f4 j h1 h2⟩
        rw [nI_0] at f1 f2
        have F16 : F.1 82 16 = nI many := by rw [f4 16 (by omega) (by omega)]; exact a16
        have F94 : F.1 94 = S.1 94 := by rw [f3 94 (by omega), a94]
        by_cases hx : x_is b N (i + 1) 0
        · obtain ⟨g1, g2, g3⟩ := f1 hx
          rw [if_pos (show (i + 1 < N ∧ nI (48 + 0) ≤ b (i + 1) ∧ b (i + 1) ≤ 57) from hx), g1, some_bind', if_neg (show ¬ (1 : Int32) = 0 by decide), g3]
          dsimp only
          obtain ⟨s, hs, es⟩ := x_st_ok hx
          have ha := x_at_le b N i
          obtain ⟨G, p1, p2, p3, p4, p5⟩ := q_mfig (hmF.T h) (show i + 1 + 1 < 1000 by omega) (show (0 : Nat) ≤ 1 by omega) g2
          rw [nI_0] at p1 p2
          have hmG : m_rd S G := hmF.tr ⟨fun q h1 _ _ => p3 q h1, p5, fun j h1 h2 _ => p4 j h1 h2⟩
          have G16 : G.1 82 16 = nI many := by rw [p4 16 (by omega) (by omega)]; exact F16
          have G94 : G.1 94 = S.1 94 := by rw [p3 94 (by omega), F94]
          have hk : ∀ (X : (Int32 × dk_S) → Option (Int32 × dk_S)), G.1 82 14 = nI (x_at b N i) ∧ (fX9_figure (nI t) 0 F).bind (fun r11 => if r11.1 = 0 then X (b (i + 1) - 48, r11.2) else X ((10 * (b (i + 1) - 48)) + (r11.2.1 82 15), r11.2)) = X (x_st b N i, G) := fun X => by
            unfold x_at x_st
            by_cases hy : x_is b N (i + 2) 0
            · obtain ⟨y1, y2, y3⟩ := p1 hy
              rw [if_pos (show (i + 2 < N ∧ nI (48 + 0) ≤ b (i + 2) ∧ b (i + 2) ≤ 57) from hy), if_pos (show (i + 2 < N ∧ nI (48 + 0) ≤ b (i + 2) ∧ b (i + 2) ≤ 57) from hy), y1, some_bind', if_neg (show ¬ (1 : Int32) = 0 by decide)]
              dsimp only
              rw [y3]
              exact ⟨y2, rfl⟩
            · obtain ⟨y1, y2⟩ := p2 hy
              rw [if_neg (show ¬ (i + 2 < N ∧ nI (48 + 0) ≤ b (i + 2) ∧ b (i + 2) ≤ 57) from hy), if_neg (show ¬ (i + 2 < N ∧ nI (48 + 0) ≤ b (i + 2) ∧ b (i + 2) ≤ 57) from hy), y1, some_bind', if_pos rfl]
              exact ⟨y2, rfl⟩
          have hk2 := hk (fun t12 : Int32 × dk_S => ((fX9_byteAt (nI t) (t12.2.1 82 14) t12.2).bind (fun r14 => if r14.1 = 58 then (fX9_figure (nI t) 1 (dk_si r14.2 82 14 ((r14.2.1 82 14) + 1))).bind (fun r17 => if r17.1 = 0 then some (0, r17.2) else dk_gd (dk_in (1 + t12.1) 101) (dk_gd (dk_in (1 + t12.1) 101) (some (1, dk_si (dk_si r17.2 94 (1 + t12.1).toNatClampNeg ((r17.2.1 94 (1 + t12.1).toNatClampNeg) + (r17.2.1 82 15))) 82 16 (((dk_si r17.2 94 (1 + t12.1).toNatClampNeg ((r17.2.1 94 (1 + t12.1).toNatClampNeg) + (r17.2.1 82 15))).1 82 16) + 1))))) else some (0, r14.2)) : Option (Int32 × dk_S)))
          obtain ⟨G14, hk2⟩ := hk2
          dsimp only at hk2
          have es1 : (1 : Int32) + nI s = nI (1 + s) := by rw [show (1 : Int32) = nI 1 from rfl, nI_add]
          rw [hk2, G14, q_byte (hmG.T h) (by omega), some_bind', es, es1, dI_in (by omega) (by omega), nI_clamp (by omega), nI_clamp (by omega)]
          simp only [dk_gd_t]
          by_cases c4 : x_at b N i < N ∧ b (x_at b N i) = 58
          · rw [if_pos c4, if_pos c4.1, if_pos c4.2, G14, nI_1]
            obtain ⟨C, hC⟩ : ∃ C, C = dk_si G 82 14 (nI (x_at b N i + 1)) := ⟨_, rfl⟩
            have hmC : m_rd S C := by rw [hC]; exact hmG.tr (m_rd.s82 (by omega))
            rw [← hC]
            have c14 : C.1 82 14 = nI (x_at b N i + 1) := by rw [hC, dk_si_eq, dk_sr_same, upd_same]
            have c16 : C.1 82 16 = nI many := by rw [hC, dk_si_eq, dk_sr_same, upd_ne _ _ (by omega)]; exact G16
            have c94 : C.1 94 = S.1 94 := by rw [hC, dk_si_eq, dk_sr_ne _ _ (by omega), G94]
            clear hC
            obtain ⟨D, d1, d2, d3, d4, d5⟩ := q_mfig (low := 1) (hmC.T h) (show x_at b N i + 1 < 1000 by omega) (by omega) c14
            have hmD : m_rd S D := hmC.tr ⟨fun q h1 _ _ => d3 q h1, d5, fun j h1 h2 _ => d4 j h1 h2⟩
            have D16 : D.1 82 16 = nI many := by rw [d4 16 (by omega) (by omega)]; exact c16
            have D94 : D.1 94 = S.1 94 := by rw [d3 94 (by omega), c94]
            by_cases hz : x_is b N (x_at b N i + 1) 1
            · obtain ⟨z1, z2, z3⟩ := d1 hz
              have z1' : fX9_figure (nI t) 1 C = some (1, D) := z1
              rw [if_pos (show (x_at b N i + 1 < N ∧ nI (48 + 1) ≤ b (x_at b N i + 1) ∧ b (x_at b N i + 1) ≤ 57) from hz), z1', some_bind', if_neg (show ¬ (1 : Int32) = 0 by decide)]
              refine ⟨_, (hmD.tr (m_rd.s9 (by omega))).tr (m_rd.s82 (by omega)), rfl, ?_, ?_, fun j => ?_⟩
              · rw [dk_si_eq, dk_sr_same, upd_ne _ _ (by omega), dk_si_eq, dk_sr_ne _ _ (by omega)]; exact z2
              · rw [dk_si_eq, dk_sr_same, upd_same, dk_si_eq, dk_sr_ne _ _ (by omega), D16, nI_1]; rfl
              · rw [dk_si_eq, dk_sr_ne _ _ (by omega), dk_si_eq, dk_sr_same, D94, z3]; rfl
            · obtain ⟨z1, z2⟩ := d2 hz
              have z1' : fX9_figure (nI t) 1 C = some (0, D) := z1
              rw [if_neg (show ¬ (x_at b N i + 1 < N ∧ nI (48 + 1) ≤ b (x_at b N i + 1) ∧ b (x_at b N i + 1) ≤ 57) from hz), z1', some_bind', if_pos rfl]
              exact ⟨D, hmD, rfl, z2, D16, fun j => by rw [D94]; rfl⟩
          · have h58 : ¬ (if x_at b N i < N then b (x_at b N i) else 0) = 58 := fun q => by
              by_cases hN1 : x_at b N i < N
              · rw [if_pos hN1] at q; exact c4 ⟨hN1, q⟩
              · rw [if_neg hN1] at q; exact absurd q (by decide)
            rw [if_neg c4, if_neg h58]
            exact ⟨G, hmG, rfl, G14, G16, fun j => by rw [G94]; rfl⟩
        · obtain ⟨g1, g2⟩ := f2 hx
          rw [if_neg (show ¬ (i + 1 < N ∧ nI (48 + 0) ≤ b (i + 1) ∧ b (i + 1) ≤ 57) from hx), g1, some_bind', if_pos rfl]
          exact ⟨F, hmF, rfl, g2, F16, fun j => by rw [F94]; rfl⟩
    · rw [if_neg c2, if_neg c2, if_neg c1]
      exact ⟨S, m_rd.rf S, rfl, h14, h16, fun j => rfl⟩
