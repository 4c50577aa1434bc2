/-! reading: signs and figures -/
def x_b (S : dk_S) (t : Nat) : Nat → Int32 := fun j => S.1 88 (80 * t + j)
/-- the figure at a place, or -1 -/
def x_fg (b : Nat → Int32) (N i : Nat) : Int32 := if i < N ∧ 48 ≤ b i ∧ b i ≤ 57 then b i - 48 else -1
/-- the text t, of N signs, as the class and the model hold it -/
def x_T (t N : Nat) (b : Nat → Int32) (S : dk_S) : Prop := t < 4 ∧ N ≤ 80 ∧ S.1 87 t = nI N ∧ S.1 (43 + 2 * t) 1 = nI N ∧ (∀ j, j < N → S.1 88 (80 * t + j) = b j) ∧ (∀ j, j < N → S.1 (44 + 2 * t) j = b j)
theorem x_T.cg {t N : Nat} {b : Nat → Int32} {S T : dk_S} (h : x_T t N b S) (h1 : T.1 87 = S.1 87) (h2 : T.1 (43 + 2 * t) = S.1 (43 + 2 * t)) (h3 : T.1 88 = S.1 88) (h4 : T.1 (44 + 2 * t) = S.1 (44 + 2 * t)) : x_T t N b T := by
  unfold x_T
  rw [h1, h2, h3, h4]
  exact h
theorem q_sign {t N i : Nat} {b : Nat → Int32} {S : dk_S} (h : x_T t N b S) (hi : i < 1000) : fX6_sign (43 + 2 * t) (nI i) S = some (if i < N then b i else 1000, S) := by
  obtain ⟨h1, h2, h3, h4, h5, h6⟩ := h
  unfold fX6_sign fX6_has
  rw [if_neg (nI_pos (by omega)), h4]
  by_cases hN : i < N
  · rw [if_neg (fun q => by have := (nI_leI (by omega) (by omega)).mp q; omega), some_bind', if_neg (show ¬ (1 : Int32) = 0 by decide), dI_in (by omega) (by omega), dk_gd_t, nI_clamp (by omega), if_pos hN, show 43 + 2 * t + 1 = 44 + 2 * t by omega, h6 i hN]
  · rw [if_pos ((nI_leI (by omega) (by omega)).mpr (by omega)), some_bind', if_pos rfl, if_neg hN]
theorem q_fig {t N i : Nat} {b : Nat → Int32} {S : dk_S} (h : x_T t N b S) (hi : i < 1000) : fX6_figure (43 + 2 * t) (nI i) S = some (x_fg b N i, S) := by
  unfold fX6_figure x_fg
  rw [q_sign h hi, some_bind', q_isOutside, some_bind']
  dsimp only
  by_cases hN : i < N
  · rw [if_pos hN]
    by_cases hb : 48 ≤ b i ∧ b i ≤ 57
    · simp only [if_pos hb, if_true, if_pos (show i < N ∧ 48 ≤ b i ∧ b i ≤ 57 from ⟨hN, hb⟩)]
    · simp only [if_neg hb, i_10, if_false, if_neg (show ¬ (i < N ∧ 48 ≤ b i ∧ b i ≤ 57) from fun q => hb q.2)]
  · rw [if_neg hN]
    simp only [if_neg (show ¬ ((48 : Int32) ≤ 1000 ∧ (1000 : Int32) ≤ 57) by decide), i_10, if_false, if_neg (show ¬ (i < N ∧ 48 ≤ b i ∧ b i ≤ 57) from fun q => hN q.1)]
theorem q_byte {t N i : Nat} {b : Nat → Int32} {S : dk_S} (h : x_T t N b S) (hi : i < 1000) : fX9_byteAt (nI t) (nI i) S = some (if i < N then b i else 0, S) := by
  obtain ⟨h1, h2, h3, h4, h5, h6⟩ := h
  unfold fX9_byteAt
  rw [dI_in h1 (by omega), dk_gd_t, nI_clamp (by omega), h3]
  by_cases hN : i < N
  · rw [if_neg (fun q => by have := (nI_leI (by omega) (by omega)).mp q; omega), show (80 : Int32) = nI 80 from rfl, nI_mul, nI_add, dI_in (by omega) (by omega), dk_gd_t, nI_clamp (by omega), if_pos hN, h5 i hN]
  · rw [if_pos ((nI_leI (by omega) (by omega)).mpr (by omega)), if_neg hN]
theorem fg_iff (x : Int32) (low : Nat) (hl : low ≤ 1) : (nI low ≤ x - 48 ∧ x - 48 ≤ 9) ↔ (nI (48 + low) ≤ x ∧ x ≤ 57) := by
  have e : x = (x - 48) + 48 := (Int32.sub_add_cancel x 48).symm
  constructor
  · intro h
    obtain ⟨v, hv, ev⟩ := dI_of (n := 9) (x := x - 48) (by omega) (by
      have := h.1
      rw [i32_le, nI_toInt (by omega)] at this
      rw [i32_le, show (0 : Int32).toInt = 0 from rfl]; omega) h.2
    rw [ev] at e h
    rw [e, show (48 : Int32) = nI 48 from rfl, nI_add]
    have h1 := (nI_leI (by omega) (by omega)).mp h.1
    exact ⟨(nI_leI (by omega) (by omega)).mpr (by omega), (nI_leI (b := 57) (by omega) (by omega)).mpr (by omega)⟩
  · intro h
    obtain ⟨v, hv, ev⟩ := dI_of (n := 57) (x := x) (by omega) (by
      have := h.1
      rw [i32_le, nI_toInt (by omega)] at this
      rw [i32_le, show (0 : Int32).toInt = 0 from rfl]; omega) h.2
    rw [ev] at h ⊢
    have h1 := (nI_leI (by omega) (by omega)).mp h.1
    rw [show (48 : Int32) = nI 48 from rfl, pk_sub (by omega)]
    exact ⟨(nI_leI (by omega) (by omega)).mpr (by omega), (nI_leI (b := 9) (by omega) (by omega)).mpr (by omega)⟩
/-- a figure no less than low, at i -/
def x_is (b : Nat → Int32) (N i low : Nat) : Prop := i < N ∧ nI (48 + low) ≤ b i ∧ b i ≤ 57
theorem x_is0 {b : Nat → Int32} {N i : Nat} : (0 ≤ x_fg b N i) ↔ x_is b N i 0 := by
  unfold x_fg x_is
  by_cases h : i < N ∧ 48 ≤ b i ∧ b i ≤ 57
  · rw [if_pos h]
    exact ⟨fun _ => h, fun _ => ((fg_iff (b i) 0 (by omega)).mpr h.2).1⟩
  · rw [if_neg h]
    exact ⟨fun q => absurd q (by decide), fun q => absurd q h⟩
theorem x_is1 {b : Nat → Int32} {N i : Nat} : (1 ≤ x_fg b N i) ↔ x_is b N i 1 := by
  unfold x_fg x_is
  by_cases h : i < N ∧ 48 ≤ b i ∧ b i ≤ 57
  · rw [if_pos h]
    refine ⟨fun q => ⟨h.1, (fg_iff (b i) 1 (by omega)).mp ⟨q, ((fg_iff (b i) 0 (by omega)).mpr h.2).2⟩⟩, fun q => ((fg_iff (b i) 1 (by omega)).mpr q.2).1⟩
  · rw [if_neg h]
    refine ⟨fun q => absurd q (by decide), fun q => absurd ⟨q.1, ?_, q.2.2⟩ h⟩
    have := q.2.1
    rw [i32_le, nI_toInt (by omega)] at this
    rw [i32_le, show (48 : Int32).toInt = 48 from rfl]
    omega
theorem x_is_v {b : Nat → Int32} {N i low : Nat} (hl : low ≤ 1) (h : x_is b N i low) : ∃ v, low ≤ v ∧ v ≤ 9 ∧ b i - 48 = nI v ∧ x_fg b N i = nI v := by
  obtain ⟨h1, h2⟩ := (fg_iff (b i) low hl).mpr h.2
  obtain ⟨v, hv, ev⟩ := dI_of (n := 9) (x := b i - 48) (by omega) (by
      rw [i32_le, nI_toInt (by omega)] at h1
      rw [i32_le, show (0 : Int32).toInt = 0 from rfl]; omega) h2
  refine ⟨v, ?_, hv, ev, ?_⟩
  · rw [ev] at h1
    exact (nI_leI (by omega) (by omega)).mp h1
  · have h48 : (48 : Int32) ≤ b i := by
      have := h.2.1
      rw [i32_le, nI_toInt (by omega)] at this
      rw [i32_le, show (48 : Int32).toInt = 48 from rfl]
      omega
    unfold x_fg
    rw [if_pos ⟨h.1, h48, h.2.2⟩, ev]
/-- the model's figure -/
theorem q_mfig {t N i low : Nat} {b : Nat → Int32} {S : dk_S} (h : x_T t N b S) (hi : i < 1000) (hl : low ≤ 1) (h14 : S.1 82 14 = nI i) : ∃ T, (x_is b N i low → fX9_figure (nI t) (nI low) S = some (1, T) ∧ T.1 82 14 = nI (i + 1) ∧ T.1 82 15 = b i - 48) ∧ (¬ x_is b N i low → fX9_figure (nI t) (nI low) S = some (0, T) ∧ T.1 82 14 = nI i) ∧ (∀ q, ¬ q = 82 → T.1 q = S.1 q) ∧ (∀ j, ¬ j = 14 → ¬ j = 15 → T.1 82 j = S.1 82 j) ∧ T.2 = S.2 := by
  unfold fX9_figure
  rw [h14, q_byte h hi, some_bind', dk_lt_eq]
  obtain ⟨A, hA⟩ : ∃ A, A = dk_si S 82 15 ((if i < N then b i else 0) - 48) := ⟨_, rfl⟩
  dsimp only
  rw [← hA]
  have a15 : A.1 82 15 = (if i < N then b i else 0) - 48 := by rw [hA, dk_si_eq, dk_sr_same, upd_same]
  have a14 : A.1 82 14 = nI i := by rw [hA, dk_si_eq, dk_sr_same, upd_ne _ _ (by omega)]; exact h14
  have ao : ∀ q, ¬ q = 82 → A.1 q = S.1 q := fun q hq => by rw [hA, dk_si_eq, dk_sr_ne _ _ hq]
  have aj : ∀ j, ¬ j = 15 → A.1 82 j = S.1 82 j := fun j hj => by rw [hA, dk_si_eq, dk_sr_same, upd_ne _ _ hj]
  have a2 : A.2 = S.2 := by rw [hA]; rfl
  clear hA
  rw [q_in, some_bind', a15]
  by_cases hx : x_is b N i low
  · have hc : nI low ≤ (if i < N then b i else 0) - 48 ∧ (if i < N then b i else 0) - 48 ≤ 9 := by rw [if_pos hx.1]; exact (fg_iff (b i) low hl).mpr hx.2
    simp only [if_pos hc, i_10, if_false, dk_lt_eq, a14, nI_1]
    refine ⟨dk_si A 82 14 (nI (i + 1)), fun _ => ⟨by simp only [or_true, decide_true, dk_gd_t], ?_, ?_⟩, fun q => absurd hx q, fun q hq => ?_, fun j h1 h2 => ?_, a2⟩
    · rw [dk_si_eq, dk_sr_same, upd_same]
    · rw [dk_si_eq, dk_sr_same, upd_ne _ _ (by omega), a15, if_pos hx.1]
    · rw [dk_si_eq, dk_sr_ne _ _ hq, ao q hq]
    · rw [dk_si_eq, dk_sr_same, upd_ne _ _ h1, aj j h2]
  · have hc : ¬ (nI low ≤ (if i < N then b i else 0) - 48 ∧ (if i < N then b i else 0) - 48 ≤ 9) := fun q => by
      by_cases hN : i < N
      · rw [if_pos hN] at q; exact hx ⟨hN, (fg_iff (b i) low hl).mp q⟩
      · rw [if_neg hN] at q
        have := (fg_iff 0 low hl).mp q
        rw [i32_le, nI_toInt (by omega), show (0 : Int32).toInt = 0 from rfl] at this
        omega
    simp only [if_neg hc, if_true, dk_lt_eq, a14, Int32.add_zero]
    refine ⟨dk_si A 82 14 (nI i), fun q => absurd q hx, fun _ => ⟨by simp only [true_or, decide_true, dk_gd_t], ?_⟩, fun q hq => ?_, fun j h1 h2 => ?_, a2⟩
    · rw [dk_si_eq, dk_sr_same, upd_same]
    · rw [dk_si_eq, dk_sr_ne _ _ hq, ao q hq]
    · rw [dk_si_eq, dk_sr_same, upd_ne _ _ h1, aj j h2]
/-- which size a letter is of -/
def xr_it (x : Int32) : Int32 := if x = 104 then 2 else if x = 105 then 4 else if x = 106 then 5 else if x = 108 then 3 else if x = 114 then 1 else if x = 119 then 0 else -9
theorem q_sizeOf (x : Int32) (S : dk_S) : fX4_sizeOf x S = some (xr_it x, S) := by
  unfold fX4_sizeOf xr_it
  repeat' split
  all_goals rfl
theorem q_itemOf (x : Int32) (S : dk_S) : fX9_itemOf x S = some (xr_it x, S) := by
  unfold fX9_itemOf xr_it
  repeat' split
  all_goals rfl
theorem xr_it_cases (x : Int32) : xr_it x = -9 ∨ ∃ j, j < 6 ∧ xr_it x = nI j := by
  unfold xr_it
  repeat' split
  · exact Or.inr ⟨2, by omega, rfl⟩
  · exact Or.inr ⟨4, by omega, rfl⟩
  · exact Or.inr ⟨5, by omega, rfl⟩
  · exact Or.inr ⟨3, by omega, rfl⟩
  · exact Or.inr ⟨1, by omega, rfl⟩
  · exact Or.inr ⟨0, by omega, rfl⟩
  · exact Or.inl rfl
def x_or (un : Int32) (j : Nat) : Int32 := un ||| (1 <<< (nI j &&& 31))
def x_an (un : Int32) (j : Nat) : Int32 := un &&& ((1 <<< (nI j &&& 31)) ^^^ (-1))
def f_w (b : Nat → Int32) (N : Nat) : Nat → Nat → (Nat → Int32) → Int32 → Int32 × (Nat → Int32) × Int32
  | 0, _, z, un => (-9, z, un)
  | k + 1, i, z, un => if N ≤ i then (-9, z, un) else if b i = 32 then f_w b N k (i + 1) z un else if xr_it (b i) = -9 then (nI i, z, un) else if ((xr_it (b i)).toNatClampNeg < 4 ∧ i + 1 < N ∧ b (i + 1) = 63) then f_w b N k (i + 2) (upd z (xr_it (b i)).toNatClampNeg 5) (x_or un (xr_it (b i)).toNatClampNeg) else if (i + 1 < N ∧ nI (48 + (if (xr_it (b i)).toNatClampNeg < 4 then 1 else 0)) ≤ b (i + 1) ∧ b (i + 1) ≤ 57) then f_w b N k (i + 2) (upd z (xr_it (b i)).toNatClampNeg (b (i + 1) - 48)) (x_an un (xr_it (b i)).toNatClampNeg) else (nI (i + 1), z, un)
theorem q_faultAt (x : Int32) (S : dk_S) : fX4_faultAt x S = some (x, dk_si S 11 3 x) := rfl
theorem q_readSize {t N i : Nat} {b : Nat → Int32} {S : dk_S} (h : x_T t N b S) (hi : i < N) :
    (xr_it (b i) = -9 → fX4_readSize (43 + 2 * t) (nI i) S = some (nI i, dk_si S 11 3 (nI i))) ∧ (∀ j, j < 6 → xr_it (b i) = nI j → ((j < 4 ∧ i + 1 < N ∧ b (i + 1) = 63) → fX4_readSize (43 + 2 * t) (nI i) S = some (nI (i + 2), dk_si (dk_si S 13 j 5) 12 1 (x_or (S.1 12 1) j))) ∧ (¬ (j < 4 ∧ i + 1 < N ∧ b (i + 1) = 63) → (x_is b N (i + 1) (if j < 4 then 1 else 0) → fX4_readSize (43 + 2 * t) (nI i) S = some (nI (i + 2), dk_si (dk_si S 13 j (b (i + 1) - 48)) 12 1 (x_an (S.1 12 1) j))) ∧ (¬ x_is b N (i + 1) (if j < 4 then 1 else 0) → fX4_readSize (43 + 2 * t) (nI i) S = some (nI (i + 1), dk_si S 11 3 (nI (i + 1)))))) := by
  have hN := h.2.1
  unfold fX4_readSize
  rw [q_sign h (by omega), some_bind', if_pos hi, q_sizeOf, some_bind']
  dsimp only
  constructor
  · intro h9
    rw [h9, if_pos rfl, q_faultAt, some_bind']
  · intro j hj ej
    have e1 : nI i + 1 = nI (i + 1) := nI_1 i
    have e2 : nI i + 2 = nI (i + 2) := by rw [show (2 : Int32) = nI 2 from rfl, nI_add]
    have hlt : (nI j < 4) ↔ j < 4 := nI_ltI (b := 4) (by omega) (by omega)
    rw [ej, if_neg (nI_m9 (by omega)), e1, e2]
    simp only [dk_lt_eq, q_fig h (show i + 1 < 1000 by omega), q_sign h (show i + 1 < 1000 by omega), some_bind', dI_in hj (show (6 : Nat) < 2 ^ 31 by omega), dk_gd_t, nI_clamp (show j < 2 ^ 31 by omega), q_faultAt]
    have hfin : ∀ (T : dk_S), T = S → (x_is b N (i + 1) (if j < 4 then 1 else 0) → (if (if (if nI j < 4 then (0 : Int32) else 1) = 0 then (1 : Int32) else 0) ≤ x_fg b N (i + 1) then some (nI (i + 2), dk_si (dk_si T 13 j (x_fg b N (i + 1))) 12 1 ((dk_si T 13 j (x_fg b N (i + 1))).1 12 1 &&& ((1 <<< (nI j &&& 31)) ^^^ (-1)))) else some (nI (i + 1), dk_si T 11 3 (nI (i + 1)))) = some (nI (i + 2), dk_si (dk_si S 13 j (b (i + 1) - 48)) 12 1 (x_an (S.1 12 1) j))) ∧ (¬ x_is b N (i + 1) (if j < 4 then 1 else 0) → (if (if (if nI j < 4 then (0 : Int32) else 1) = 0 then (1 : Int32) else 0) ≤ x_fg b N (i + 1) then some (nI (i + 2), dk_si (dk_si T 13 j (x_fg b N (i + 1))) 12 1 ((dk_si T 13 j (x_fg b N (i + 1))).1 12 1 &&& ((1 <<< (nI j &&& 31)) ^^^ (-1)))) else some (nI (i + 1), dk_si T 11 3 (nI (i + 1)))) = some (nI (i + 1), dk_si S 11 3 (nI (i + 1)))) := fun T hT => by
      subst hT
      have hy : ((if (if nI j < 4 then (0 : Int32) else 1) = 0 then (1 : Int32) else 0) ≤ x_fg b N (i + 1)) ↔ x_is b N (i + 1) (if j < 4 then 1 else 0) := by
        by_cases h4 : j < 4
        · rw [if_pos (hlt.mpr h4), if_pos rfl, if_pos h4]; exact x_is1
        · rw [if_neg (fun q => h4 (hlt.mp q)), if_neg (by decide), if_neg h4]; exact x_is0
      constructor
      · intro hx
        obtain ⟨v, v1, v2, v3, v4⟩ := x_is_v (by by_cases h4 : j < 4 <;> simp [h4]) hx
        rw [if_pos (hy.mpr hx), v4, v3]
        unfold x_an
        rw [dk_si_eq T 13, dk_sr_ne _ _ (by omega)]
      · intro hx
        rw [if_neg (fun q => hx (hy.mp q))]
    refine ⟨fun hB => ?_, fun hB => ?_⟩
    · rw [if_pos (hlt.mpr hB.1), if_pos rfl, if_pos hB.2.1, if_pos hB.2.2]
      unfold x_or
      rw [dk_si_eq S 13, dk_sr_ne _ _ (by omega)]
    · by_cases h4 : j < 4
      · have h63 : ¬ (if i + 1 < N then b (i + 1) else 1000) = 63 := fun q => by
          by_cases hN1 : i + 1 < N
          · rw [if_pos hN1] at q; exact hB ⟨h4, hN1, q⟩
          · rw [if_neg hN1] at q; exact absurd q (by decide)
        obtain ⟨f1, f2⟩ := hfin S rfl
        rw [if_pos (hlt.mpr h4)] at f1 f2 ⊢
        rw [if_pos rfl, if_neg h63]
        exact ⟨f1, f2⟩
      · obtain ⟨f1, f2⟩ := hfin S rfl
        rw [if_neg (fun q => h4 (hlt.mp q))] at f1 f2 ⊢
        rw [if_neg (show ¬ (1 : Int32) = 0 by decide)]
        exact ⟨f1, f2⟩
