/-! reading a walker -/
def m_rd (S T : dk_S) : Prop := (∀ q, ¬ q = 82 → ¬ q = 93 → ¬ q = 94 → T.1 q = S.1 q) ∧ T.2 = S.2 ∧ (∀ j, ¬ j = 14 → ¬ j = 15 → ¬ j = 16 → T.1 82 j = S.1 82 j)
theorem m_rd.rf (S : dk_S) : m_rd S S := ⟨fun _ _ _ _ => rfl, rfl, fun _ _ _ _ => rfl⟩
theorem m_rd.tr {S T U : dk_S} (h : m_rd S T) (g : m_rd T U) : m_rd S U := ⟨fun q h1 h2 h3 => (g.1 q h1 h2 h3).trans (h.1 q h1 h2 h3), g.2.1.trans h.2.1, fun j h1 h2 h3 => (g.2.2 j h1 h2 h3).trans (h.2.2 j h1 h2 h3)⟩
theorem m_rd.T {t N : Nat} {b : Nat → Int32} {S T : dk_S} (g : m_rd S T) (h : x_T t N b S) : x_T t N b T := by
  have := h.1
  exact h.cg (g.1 _ (by omega) (by omega) (by omega)) (g.1 _ (by omega) (by omega) (by omega)) (g.1 _ (by omega) (by omega) (by omega)) (g.1 _ (by omega) (by omega) (by omega))
theorem m_rd.s82 {S : dk_S} {j : Nat} {v : Int32} (h : j = 14 ∨ j = 15 ∨ j = 16) : m_rd S (dk_si S 82 j v) := ⟨fun q h1 _ _ => by rw [dk_si_eq, dk_sr_ne _ _ h1], rfl, fun i h1 h2 h3 => by rw [dk_si_eq, dk_sr_same, upd_ne _ _ (by omega)]⟩
theorem m_rd.s9 {S : dk_S} {q j : Nat} {v : Int32} (h : q = 93 ∨ q = 94) : m_rd S (dk_si S q j v) := ⟨fun p _ h2 h3 => by rw [dk_si_eq, dk_sr_ne _ _ (by omega)], rfl, fun i h1 h2 h3 => by rw [dk_si_eq, dk_sr_ne _ _ (by omega)]⟩
theorem q_readsSize {t N i : Nat} {b : Nat → Int32} {S : dk_S} (h : x_T t N b S) (hi : i < N) (h14 : S.1 82 14 = nI i) :
    (xr_it (b i) = -9 → fX9_readsSize (nI t) S = some (0, S)) ∧ (∀ j, j < 6 → xr_it (b i) = nI j → ∃ T, m_rd S T ∧ ((j < 4 ∧ i + 1 < N ∧ b (i + 1) = 63) → fX9_readsSize (nI t) S = some (1, T) ∧ T.1 82 14 = nI (i + 2) ∧ T.1 93 = upd (upd (S.1 93) j 5) 6 (x_or (S.1 93 6) j)) ∧ (¬ (j < 4 ∧ i + 1 < N ∧ b (i + 1) = 63) → (x_is b N (i + 1) (if j < 4 then 1 else 0) → fX9_readsSize (nI t) S = some (1, T) ∧ T.1 82 14 = nI (i + 2) ∧ T.1 93 = upd (upd (S.1 93) j (b (i + 1) - 48)) 6 (x_an (S.1 93 6) j)) ∧ (¬ x_is b N (i + 1) (if j < 4 then 1 else 0) → fX9_readsSize (nI t) S = some (0, T) ∧ T.1 82 14 = nI (i + 1) ∧ T.1 93 = S.1 93))) := by
  have hN := h.2.1
  unfold fX9_readsSize
  rw [h14, q_byte h (by omega), some_bind', if_pos hi, q_itemOf, some_bind']
  dsimp only
  constructor
  · intro h9
    rw [h9, if_pos rfl]
  · intro j hj ej
    have hle : (4 ≤ nI j) ↔ 4 ≤ j := nI_leI (a := 4) (by omega) (by omega)
    rw [ej, if_neg (nI_m9 (by omega)), h14, nI_1, dk_lt_eq]
    have hm4 : m_rd S (dk_si S 82 14 (nI (i + 1))) := m_rd.s82 (by omega)
    obtain ⟨A, hA⟩ : ∃ A, A = dk_si S 82 14 (nI (i + 1)) := ⟨_, rfl⟩
    rw [← hA] at hm4 ⊢
    have a14 : A.1 82 14 = nI (i + 1) := by rw [hA, dk_si_eq, dk_sr_same, upd_same]
    have a93 : A.1 93 = S.1 93 := by rw [hA, dk_si_eq, dk_sr_ne _ _ (by omega)]
    clear hA
    have hTA := hm4.T h
    simp only [dk_lt_eq, a14, dI_in (show j < 7 by omega) (show (7 : Nat) < 2 ^ 31 by omega), dk_gd_t, nI_clamp (show j < 2 ^ 31 by omega)]
    -- the figure
    have hK : ∃ T, m_rd S T ∧ (x_is b N (i + 1) (if j < 4 then 1 else 0) → (fX9_figure (nI t) (if 4 ≤ nI j then 0 else 1) A).bind (fun r8 => if r8.1 = 0 then some ((0 : Int32), r8.2) else some (1, dk_si (dk_si r8.2 93 j (r8.2.1 82 15)) 93 6 ((dk_si r8.2 93 j (r8.2.1 82 15)).1 93 6 &&& ((1 <<< (nI j &&& 31)) ^^^ (-1))))) = some (1, T) ∧ T.1 82 14 = nI (i + 2) ∧ T.1 93 = upd (upd (S.1 93) j (b (i + 1) - 48)) 6 (x_an (S.1 93 6) j)) ∧ (¬ x_is b N (i + 1) (if j < 4 then 1 else 0) → (fX9_figure (nI t) (if 4 ≤ nI j then 0 else 1) A).bind (fun r8 => if r8.1 = 0 then some ((0 : Int32), r8.2) else some (1, dk_si (dk_si r8.2 93 j (r8.2.1 82 15)) 93 6 ((dk_si r8.2 93 j (r8.2.1 82 15)).1 93 6 &&& ((1 <<< (nI j &&& 31)) ^^^ (-1))))) = some (0, T) ∧ T.1 82 14 = nI (i + 1) ∧ T.1 93 = S.1 93) := by
      have hlow : (if 4 ≤ nI j then (0 : Int32) else 1) = nI (if j < 4 then 1 else 0) := by
        by_cases h4 : j < 4
        · rw [if_neg (fun q => by have := hle.mp q; omega), if_pos h4]; rfl
        · rw [if_pos (hle.mpr (by omega)), if_neg h4]; rfl
      rw [hlow]
      obtain ⟨F, f1, f2, f3, f4, f5⟩ := q_mfig hTA (show i + 1 < 1000 by omega) (show (if j < 4 then 1 else 0) ≤ 1 by by_cases h4 : j < 4 <;> simp [h4]) a14
      have hmF : m_rd A F := ⟨fun q h1 _ _ => f3 q h1, f5, fun j h1 h2 _ => f4 j h1 h2⟩
      by_cases hx : x_is b N (i + 1) (if j < 4 then 1 else 0)
      · obtain ⟨g1, g2, g3⟩ := f1 hx
        refine ⟨dk_si (dk_si F 93 j (b (i + 1) - 48)) 93 6 (x_an (S.1 93 6) j), ((hm4.tr hmF).tr (m_rd.s9 (by omega))).tr (m_rd.s9 (by omega)), fun _ => ⟨?_, ?_, ?_⟩, fun q => absurd hx q⟩
        · rw [g1, some_bind', if_neg (show ¬ (1 : Int32) = 0 by decide)]
          dsimp only
          rw [g3]
          unfold x_an
          rw [dk_si_eq F 93, dk_sr_same, upd_ne _ _ (by omega), f3 93 (by omega), a93]
        · rw [dk_si_eq, dk_sr_ne _ _ (by omega), dk_si_eq, dk_sr_ne _ _ (by omega)]; exact g2
        · rw [dk_si_eq, dk_sr_same, dk_si_eq, dk_sr_same, f3 93 (by omega), a93]
      · obtain ⟨g1, g2⟩ := f2 hx
        refine ⟨F, hm4.tr hmF, fun q => absurd q hx, fun _ => ⟨?_, g2, by rw [f3 93 (by omega), a93]⟩⟩
        rw [g1, some_bind', if_pos rfl]
    by_cases hB : j < 4 ∧ i + 1 < N ∧ b (i + 1) = 63
    · refine ⟨dk_si (dk_si (dk_si A 82 14 (nI (i + 2))) 93 j 5) 93 6 (x_or (S.1 93 6) j), ((hm4.tr (m_rd.s82 (by omega))).tr (m_rd.s9 (by omega))).tr (m_rd.s9 (by omega)), fun _ => ⟨?_, ?_, ?_⟩, fun q => absurd hB q⟩
      · rw [if_neg (fun q => by have := hle.mp q; omega), q_byte hTA (by omega), some_bind', if_pos hB.2.1, hB.2.2, if_pos rfl]
        dsimp only
        rw [a14, nI_1]
        unfold x_or
        rw [dk_si_eq _ 93 j, dk_sr_same, upd_ne _ _ (by omega), dk_si_eq _ 82, dk_sr_ne _ _ (by omega), a93]
      · rw [dk_si_eq, dk_sr_ne _ _ (by omega), dk_si_eq, dk_sr_ne _ _ (by omega), dk_si_eq, dk_sr_same, upd_same]
      · rw [dk_si_eq, dk_sr_same, dk_si_eq, dk_sr_same, dk_si_eq, dk_sr_ne _ _ (by omega), a93]
    · obtain ⟨T, k1, k2, k3⟩ := hK
      refine ⟨T, k1, fun q => absurd q hB, fun _ => ?_⟩
      by_cases h4 : 4 ≤ j
      · rw [if_pos (hle.mpr h4)]
        exact ⟨k2, k3⟩
      · have h63 : ¬ (if i + 1 < N then b (i + 1) else 0) = 63 := fun q => by
          by_cases hN1 : i + 1 < N
          · rw [if_pos hN1] at q; exact hB ⟨by omega, hN1, q⟩
          · rw [if_neg hN1] at q; exact absurd q (by decide)
        rw [if_neg (fun q => h4 (hle.mp q)), q_byte hTA (by omega), some_bind', if_neg h63]
        exact ⟨k2, k3⟩
/-- the class's cells of the reader -/
def c_rd (S T : dk_S) : Prop := (∀ q, ¬ (11 ≤ q ∧ q ≤ 15) → T.1 q = S.1 q) ∧ T.2 = S.2
theorem c_rd.tr {S T U : dk_S} (h : c_rd S T) (g : c_rd T U) : c_rd S U := ⟨fun q h1 => (g.1 q h1).trans (h.1 q h1), g.2.trans h.2⟩
theorem c_rd.T {t N : Nat} {b : Nat → Int32} {S T : dk_S} (g : c_rd S T) (h : x_T t N b S) : x_T t N b T := by
  have := h.1
  exact h.cg (g.1 _ (by omega)) (g.1 _ (by omega)) (g.1 _ (by omega)) (g.1 _ (by omega))
theorem c_rd.si {S : dk_S} {q j : Nat} {v : Int32} (h : 11 ≤ q ∧ q ≤ 15) : c_rd S (dk_si S q j v) := ⟨fun p hp => by rw [dk_si_eq, dk_sr_ne _ _ (by omega)], rfl⟩
theorem q_rdend {k1 m : Nat} {x n : Int32} {S : dk_S} (h : ¬ S.1 11 3 = -9) : fX4_readDuck_L17 k1 (m + 1) x n S = some (S.1 11 3, S) := by
  rw [fX4_readDuck_L17]
  by_cases h1 : 80 ≤ n
  · rw [if_pos h1]
  · rw [if_neg h1]
    by_cases h2 : S.1 k1 1 ≤ x
    · rw [if_pos h2]
    · rw [if_neg h2, if_neg h]
theorem e_crd {t N : Nat} {b : Nat → Int32} : ∀ (k m n i : Nat) (z : Nat → Int32) (un : Int32) (S : dk_S), N - i < k → k ≤ m → n ≤ i → i ≤ 1000 → x_T t N b S → (∀ j, j < 6 → S.1 13 j = z j) → S.1 12 1 = un → S.1 11 3 = -9 →
    ∃ T, fX4_readDuck_L17 (43 + 2 * t) m (nI i) (nI n) S = some ((f_w b N k i z un).1, T) ∧ c_rd S T ∧ (∀ j, j < 6 → T.1 13 j = (f_w b N k i z un).2.1 j) ∧ T.1 12 1 = (f_w b N k i z un).2.2 := by
  intro k
  induction k with
  | zero => intro m n i z un S h1; omega
  | succ k ih =>
    intro m n i z un S h1 h2 h3 hi1 hT hz hu h9
    have hN := hT.2.1
    obtain ⟨m, rfl⟩ : ∃ m', m = m' + 1 := ⟨m - 1, by omega⟩
    rw [fX4_readDuck_L17, f_w, h9, hT.2.2.2.1]
    by_cases hi : N ≤ i
    · rw [if_pos hi]
      refine ⟨S, ?_, ⟨fun _ _ => rfl, rfl⟩, hz, hu⟩
      by_cases h80 : (80 : Int32) ≤ nI n
      · rw [if_pos h80]
      · rw [if_neg h80]
        rw [if_pos ((nI_leI (by omega) (by omega)).mpr hi)]
    · rw [if_neg hi, if_neg (show ¬ (80 : Int32) ≤ nI n from fun q => by have := (nI_leI (a := 80) (by omega) (by omega)).mp q; omega), if_neg (fun q => by have := (nI_leI (by omega) (by omega)).mp q; omega), if_pos rfl, q_sign hT (by omega), some_bind', dk_lt_eq]
      dsimp only
      rw [if_pos (show i < N by omega)]
      simp only [nI_1]
      by_cases h32 : b i = 32
      · rw [if_pos h32, if_pos h32]
        exact ih m (n + 1) (i + 1) z un S (by omega) (by omega) (by omega) (by omega) hT hz hu h9
      · rw [if_neg h32, if_neg h32]
        obtain ⟨r1, r2⟩ := q_readSize hT (show i < N by omega)
        have hend : ∀ i', i' ≤ 81 → ∃ T, fX4_readDuck_L17 (43 + 2 * t) m (nI i') (nI (n + 1)) (dk_si S 11 3 (nI i')) = some (nI i', T) ∧ c_rd S T ∧ (∀ j, j < 6 → T.1 13 j = z j) ∧ T.1 12 1 = un := fun i' hi' => by
          obtain ⟨m, rfl⟩ : ∃ m', m = m' + 1 := ⟨m - 1, by omega⟩
          have e : (dk_si S 11 3 (nI i')).1 11 3 = nI i' := by rw [dk_si_eq, dk_sr_same, upd_same]
          refine ⟨dk_si S 11 3 (nI i'), ?_, c_rd.si (by omega), fun j hj => by rw [dk_si_eq, dk_sr_ne _ _ (by omega)]; exact hz j hj, by rw [dk_si_eq, dk_sr_ne _ _ (by omega)]; exact hu⟩
          rw [q_rdend (by rw [e]; exact nI_m9 (by omega)), e]
        rcases xr_it_cases (b i) with hx | ⟨j, hj, hx⟩
        · rw [r1 hx, some_bind', if_pos hx]
          exact hend i (by omega)
        · obtain ⟨s1, s2⟩ := r2 j hj hx
          rw [if_neg (by rw [hx]; exact nI_m9 (by omega)), hx, nI_clamp (by omega)]
          have hnext : ∀ (v : Int32) (un' : Int32), ∃ T, fX4_readDuck_L17 (43 + 2 * t) m (nI (i + 2)) (nI (n + 1)) (dk_si (dk_si S 13 j v) 12 1 un') = some ((f_w b N k (i + 2) (upd z j v) un').1, T) ∧ c_rd S T ∧ (∀ l, l < 6 → T.1 13 l = (f_w b N k (i + 2) (upd z j v) un').2.1 l) ∧ T.1 12 1 = (f_w b N k (i + 2) (upd z j v) un').2.2 := fun v un' => by
            have hc : c_rd S (dk_si (dk_si S 13 j v) 12 1 un') := (c_rd.si (by omega)).tr (c_rd.si (by omega))
            obtain ⟨T, t1, t2, t3, t4⟩ := ih m (n + 1) (i + 2) (upd z j v) un' (dk_si (dk_si S 13 j v) 12 1 un') (by omega) (by omega) (by omega) (by omega) (hc.T hT) (fun l hl => by
              rw [dk_si_eq, dk_sr_ne _ _ (by omega), dk_si_eq, dk_sr_same, upd_at, upd_at, hz l hl]) (by rw [dk_si_eq, dk_sr_same, upd_same]) (by rw [dk_si_eq, dk_sr_ne _ _ (by omega), dk_si_eq, dk_sr_ne _ _ (by omega)]; exact h9)
            exact ⟨T, t1, hc.tr t2, t3, t4⟩
          by_cases hB : j < 4 ∧ i + 1 < N ∧ b (i + 1) = 63
          · rw [s1 hB, some_bind', if_pos hB, hu]
            exact hnext 5 (x_or un j)
          · obtain ⟨s3, s4⟩ := s2 hB
            rw [if_neg hB]
            by_cases hC : x_is b N (i + 1) (if j < 4 then 1 else 0)
            · rw [s3 hC, some_bind', if_pos (show (i + 1 < N ∧ nI (48 + (if j < 4 then 1 else 0)) ≤ b (i + 1) ∧ b (i + 1) ≤ 57) from hC), hu]
              exact hnext (b (i + 1) - 48) (x_an un j)
            · rw [s4 hC, some_bind', if_neg (show ¬ (i + 1 < N ∧ nI (48 + (if j < 4 then 1 else 0)) ≤ b (i + 1) ∧ b (i + 1) ≤ 57) from hC)]
              exact hend (i + 1) (by omega)
theorem e_mrd {t N : Nat} {b : Nat → Int32} : ∀ (k m i : Nat) (z : Nat → Int32) (un : Int32) (S : dk_S), N - i < k → k ≤ m → i ≤ 1000 → x_T t N b S → (∀ j, j < 6 → S.1 93 j = z j) → S.1 93 6 = un → S.1 82 14 = nI i →
    ∃ T, fX9_walkerFault_L35 (nI t) m S = some ((f_w b N k i z un).1, T) ∧ m_rd S T ∧ (∀ j, j < 6 → T.1 93 j = (f_w b N k i z un).2.1 j) ∧ T.1 93 6 = (f_w b N k i z un).2.2 := by
  intro k
  induction k with
  | zero => intro m i z un S h1; omega
  | succ k ih =>
    intro m i z un S h1 h2 h3 hT hz hu h14
    have hN := hT.2.1
    have ht := hT.1
    obtain ⟨m, rfl⟩ : ∃ m', m = m' + 1 := ⟨m - 1, by omega⟩
    rw [fX9_walkerFault_L35, f_w, dI_in ht (by omega), dk_gd_t, nI_clamp (by omega), hT.2.2.1, h14]
    by_cases hi : N ≤ i
    · rw [if_pos hi, if_pos ((nI_leI (by omega) (by omega)).mpr hi)]
      exact ⟨S, rfl, m_rd.rf S, hz, hu⟩
    · rw [if_neg hi, if_neg (fun q => by have := (nI_leI (by omega) (by omega)).mp q; omega), q_byte hT (by omega), some_bind']
      dsimp only
      rw [if_pos (show i < N by omega)]
      by_cases h32 : b i = 32
      · rw [if_pos h32, if_pos h32, dk_lt_eq, h14, nI_1]
        have hm : m_rd S (dk_si S 82 14 (nI (i + 1))) := m_rd.s82 (by omega)
        obtain ⟨T, t1, t2, t3, t4⟩ := ih m (i + 1) z un (dk_si S 82 14 (nI (i + 1))) (by omega) (by omega) (by omega) (hm.T hT) (fun j hj => by rw [dk_si_eq, dk_sr_ne _ _ (by omega)]; exact hz j hj) (by rw [dk_si_eq, dk_sr_ne _ _ (by omega)]; exact hu) (by rw [dk_si_eq, dk_sr_same, upd_same])
        exact ⟨T, t1, hm.tr t2, t3, t4⟩
      · rw [if_neg h32, if_neg h32]
        obtain ⟨r1, r2⟩ := q_readsSize hT (show i < N by omega) h14
        rcases xr_it_cases (b i) with hx | ⟨j, hj, hx⟩
        · rw [r1 hx, some_bind', if_pos rfl, if_pos hx]
          dsimp only
          rw [h14]
          exact ⟨S, rfl, m_rd.rf S, hz, hu⟩
        · obtain ⟨A, a1, a2, a3⟩ := r2 j hj hx
          rw [if_neg (by rw [hx]; exact nI_m9 (by omega)), hx, nI_clamp (by omega)]
          have hnext : ∀ (v : Int32) (un' : Int32), A.1 82 14 = nI (i + 2) → A.1 93 = upd (upd (S.1 93) j v) 6 un' → ∃ T, fX9_walkerFault_L35 (nI t) m A = some ((f_w b N k (i + 2) (upd z j v) un').1, T) ∧ m_rd S T ∧ (∀ l, l < 6 → T.1 93 l = (f_w b N k (i + 2) (upd z j v) un').2.1 l) ∧ T.1 93 6 = (f_w b N k (i + 2) (upd z j v) un').2.2 := fun v un' g1 g2 => by
            obtain ⟨T, t1, t2, t3, t4⟩ := ih m (i + 2) (upd z j v) un' A (by omega) (by omega) (by omega) (a1.T hT) (fun l hl => by rw [g2, upd_ne _ _ (by omega), upd_at, upd_at, hz l hl]) (by rw [g2, upd_same]) g1
            exact ⟨T, t1, a1.tr t2, t3, t4⟩
          by_cases hB : j < 4 ∧ i + 1 < N ∧ b (i + 1) = 63
          · obtain ⟨g1, g2, g3⟩ := a2 hB
            rw [g1, some_bind', if_neg (show ¬ (1 : Int32) = 0 by decide), if_pos hB]
            rw [hu] at g3
            exact hnext 5 (x_or un j) g2 g3
          · obtain ⟨s3, s4⟩ := a3 hB
            rw [if_neg hB]
            by_cases hC : x_is b N (i + 1) (if j < 4 then 1 else 0)
            · obtain ⟨g1, g2, g3⟩ := s3 hC
              rw [g1, some_bind', if_neg (show ¬ (1 : Int32) = 0 by decide), if_pos (show (i + 1 < N ∧ nI (48 + (if j < 4 then 1 else 0)) ≤ b (i + 1) ∧ b (i + 1) ≤ 57) from hC)]
              rw [hu] at g3
              exact hnext (b (i + 1) - 48) (x_an un j) g2 g3
            · obtain ⟨g1, g2, g3⟩ := s4 hC
              rw [g1, some_bind', if_pos rfl, if_neg (show ¬ (i + 1 < N ∧ nI (48 + (if j < 4 then 1 else 0)) ≤ b (i + 1) ∧ b (i + 1) ≤ 57) from hC)]
              dsimp only
              rw [g2]
              exact ⟨A, rfl, a1, fun l hl => by rw [g3]; exact hz l hl, by rw [g3]; exact hu⟩
