/-! tocks: a row of paces -/
def w_tk (o : Nat) (P : p_P) (bs : Nat → Int32) : Nat → Nat → Nat → Int32 → Int32 → Int32 → (Nat → Int32) → (Nat → Int32)
  | 0, _, _, _, _, _, g => g
  | k + 1, t, st, p, f, i, g => if i = 0 then w_tk o P bs k (t + 1) (st + 1) (p_S P (c_b bs st) p f).1 (p_S P (c_b bs st) p f).2.1 (p_S P (c_b bs st) p f).2.2 (upd g (o + t) (p_S P (c_b bs st) p f).1) else g
theorem w_go_t (P : p_P) (bs : Nat → Int32) (s3 : Int32) : ∀ (k t st : Nat) (p f i lo we : Int32), t ≤ (w_go P bs s3 k t st p f i lo we).1 := by
  intro k
  induction k with
  | zero => intro t st p f i lo we; exact Nat.le_refl _
  | succ k ih =>
    intro t st p f i lo we
    rw [w_go]
    by_cases h0 : i = 0
    · rw [if_pos h0]; have := ih (t + 1) (st + 1) (p_S P (c_b bs st) p f).1 (p_S P (c_b bs st) p f).2.1 (p_S P (c_b bs st) p f).2.2 (lo + p * p / P.2.2.1) (we + (s3 + (p_S P (c_b bs st) p f).1 / 10)); omega
    · rw [if_neg h0]; exact Nat.le_refl _
theorem w_tk_o (o : Nat) (P : p_P) (bs : Nat → Int32) (s3 : Int32) : ∀ (k t st : Nat) (p f i lo we : Int32) (g : Nat → Int32) (j : Nat), (j < o + t ∨ o + (w_go P bs s3 k t st p f i lo we).1 ≤ j) → w_tk o P bs k t st p f i g j = g j := by
  intro k
  induction k with
  | zero => intro t st p f i lo we g j h; rfl
  | succ k ih =>
    intro t st p f i lo we g j h
    rw [w_go] at h
    rw [w_tk]
    by_cases h0 : i = 0
    · rw [if_pos h0] at h ⊢
      have hle := w_go_t P bs s3 k (t + 1) (st + 1) (p_S P (c_b bs st) p f).1 (p_S P (c_b bs st) p f).2.1 (p_S P (c_b bs st) p f).2.2 (lo + p * p / P.2.2.1) (we + (s3 + (p_S P (c_b bs st) p f).1 / 10))
      rw [ih (t + 1) (st + 1) _ _ _ (lo + p * p / P.2.2.1) (we + (s3 + (p_S P (c_b bs st) p f).1 / 10)) _ j (by omega), upd_ne _ _ (by omega)]
    · rw [if_neg h0]
theorem w_tk_i (o o' : Nat) (P : p_P) (bs : Nat → Int32) (s3 : Int32) : ∀ (k t st : Nat) (p f i lo we : Int32) (g g' : Nat → Int32) (j : Nat), t ≤ j → j < (w_go P bs s3 k t st p f i lo we).1 → w_tk o P bs k t st p f i g (o + j) = w_tk o' P bs k t st p f i g' (o' + j) := by
  intro k
  induction k with
  | zero => intro t st p f i lo we g g' j h1 h2; exact absurd h2 (by show ¬ j < t; omega)
  | succ k ih =>
    intro t st p f i lo we g g' j h1 h2
    rw [w_go] at h2
    rw [w_tk, w_tk]
    by_cases h0 : i = 0
    · rw [if_pos h0] at h2 ⊢
      rw [if_pos h0]
      by_cases hj : j = t
      · subst hj
        rw [w_tk_o o P bs s3 k (j + 1) (st + 1) _ _ _ (lo + p * p / P.2.2.1) (we + (s3 + (p_S P (c_b bs st) p f).1 / 10)) _ (o + j) (by omega), w_tk_o o' P bs s3 k (j + 1) (st + 1) _ _ _ (lo + p * p / P.2.2.1) (we + (s3 + (p_S P (c_b bs st) p f).1 / 10)) _ (o' + j) (by omega), upd_same, upd_same]
      · exact ih (t + 1) (st + 1) _ _ _ (lo + p * p / P.2.2.1) (we + (s3 + (p_S P (c_b bs st) p f).1 / 10)) _ _ j (by omega) h2
    · rw [if_neg h0] at h2
      exact absurd h2 (by show ¬ j < t; omega)
theorem e_ctk {r : Nat} (hr : r < 6) {c : Nat → Int32} : ∀ (m k t st : Nat) (p f i lo we : Int32) (S : dk_S), k < m → t + k ≤ 60 → st + k < 2 ^ 31 → S.1 5 = c_row c p f (nI st) i lo we →
    fX8_tocks_L62 (nI (t + k)) (nI r) m (nI t) S = some (nI (w_go (c_P (S.1 7) (c 3) (S.1 8 1)) (S.1 9) (S.1 7 3) k t st p f i lo we).1, dk_sr (dk_sr S 5 (c_row c (w_go (c_P (S.1 7) (c 3) (S.1 8 1)) (S.1 9) (S.1 7 3) k t st p f i lo we).2.2.1 (w_go (c_P (S.1 7) (c 3) (S.1 8 1)) (S.1 9) (S.1 7 3) k t st p f i lo we).2.2.2.1 (nI (w_go (c_P (S.1 7) (c 3) (S.1 8 1)) (S.1 9) (S.1 7 3) k t st p f i lo we).2.1) (w_go (c_P (S.1 7) (c 3) (S.1 8 1)) (S.1 9) (S.1 7 3) k t st p f i lo we).2.2.2.2.1 (w_go (c_P (S.1 7) (c 3) (S.1 8 1)) (S.1 9) (S.1 7 3) k t st p f i lo we).2.2.2.2.2.1 (w_go (c_P (S.1 7) (c 3) (S.1 8 1)) (S.1 9) (S.1 7 3) k t st p f i lo we).2.2.2.2.2.2)) (32 + 2 * r) (w_tk 0 (c_P (S.1 7) (c 3) (S.1 8 1)) (S.1 9) k t st p f i (S.1 (32 + 2 * r)))) := by
  intro m
  induction m with
  | zero => intro k t st p f i lo we S h1; omega
  | succ m ih =>
    intro k t st p f i lo we S h1 h2 h3 hrow
    have hid : S = dk_sr (dk_sr S 5 (c_row c p f (nI st) i lo we)) (32 + 2 * r) (S.1 (32 + 2 * r)) := by rw [← hrow, dk_sr_id, dk_sr_id]
    rw [fX8_tocks_L62]
    cases k with
    | zero =>
      rw [if_pos (show nI (t + 0) ≤ nI t from Int32.le_refl _)]
      show some (nI t, S) = some (nI t, dk_sr (dk_sr S 5 (c_row c p f (nI st) i lo we)) (32 + 2 * r) (S.1 (32 + 2 * r)))
      rw [← hid]
    | succ k =>
      rw [if_neg (show ¬ nI (t + (k + 1)) ≤ nI t from fun g => by have := (nI_leI (by omega) (by omega)).mp g; omega), w_go, w_tk]
      by_cases h0 : i = 0
      · subst h0
        have hst := q_stride hrow (by omega : st < 2 ^ 31)
        rw [show (5 + 2 : Nat) = 7 from rfl, show (5 + 3 : Nat) = 8 from rfl, show (5 + 4 : Nat) = 9 from rfl] at hst
        rw [if_pos rfl, if_pos rfl, hst, some_bind', if_neg (show ¬ (1 : Int32) = 0 by decide), dI_in hr (by omega), dk_gd_t, dI_in (by omega) (by omega), dk_gd_t, dk_lt_eq, nI_clamp (by omega), nI_clamp (by omega), nI_1, show t + (k + 1) = t + 1 + k by omega, show 31 + 2 * r + 1 = 32 + 2 * r by omega, dk_si_eq]
        dsimp only
        rw [dk_sr_same, c_row_4, dk_sr_ne _ _ (by omega : ¬ 32 + 2 * r = 5)]
        rw [ih k (t + 1) (st + 1) _ _ _ _ _ _ (by omega) (by omega) (by omega) (by rw [dk_sr_ne _ _ (by omega), dk_sr_same])]
        rw [dk_sr_same, dk_sr_ne _ _ (by omega : ¬ 7 = 32 + 2 * r), dk_sr_ne _ _ (by omega : ¬ 8 = 32 + 2 * r), dk_sr_ne _ _ (by omega : ¬ 9 = 32 + 2 * r), dk_sr_ne _ _ (by omega : ¬ 7 = 5), dk_sr_ne _ _ (by omega : ¬ 8 = 5), dk_sr_ne _ _ (by omega : ¬ 9 = 5)]
        rw [dk_sr_comm _ _ _ (by omega : ¬ 32 + 2 * r = 5), dk_sr_sr, dk_sr_sr, Nat.zero_add]
      · rw [if_neg h0, if_neg h0, q_stride0 (by rw [hrow, c_row_7]; exact h0), some_bind', if_pos rfl]
        show some (nI t, S) = some (nI t, dk_sr (dk_sr S 5 (c_row c p f (nI st) i lo we)) (32 + 2 * r) (S.1 (32 + 2 * r)))
        rw [← hid]
theorem g_M_85 (S : dk_S) (g c : Nat → Int32) (p f i lo we : Int32) (st j : Nat) (v : Int32) : dk_si (g_M (dk_sr S 85 g) c p f i lo we st) 85 j v = g_M (dk_sr S 85 (upd g j v)) c p f i lo we st := by
  have h85 : (g_M (dk_sr S 85 g) c p f i lo we st).1 85 = g := by rw [g_M_o _ _ _ _ _ _ _ _ (by omega) (by omega), dk_sr_same]
  rw [dk_si_eq, h85]
  refine Prod.ext ?_ rfl
  funext q
  by_cases h5 : q = 85
  · subst h5; rw [dk_sr_same, g_M_o _ _ _ _ _ _ _ _ (by omega) (by omega), dk_sr_same]
  · rw [dk_sr_ne _ _ h5]
    by_cases h2 : q = 82
    · subst h2; rw [g_M_82, g_M_82]
    · by_cases h8 : q = 98
      · subst h8; rw [g_M_98, g_M_98, dk_sr_ne _ _ (by omega), dk_sr_ne _ _ (by omega)]
      · rw [g_M_o _ _ _ _ _ _ _ _ h2 h8, g_M_o _ _ _ _ _ _ _ _ h2 h8, dk_sr_ne _ _ h5, dk_sr_ne _ _ h5]
theorem q_walksOn0 {S : dk_S} {c : Nat → Int32} {p f i lo we : Int32} {st : Nat} (h0 : ¬ i = 0) : fX9_walksOn (g_M S c p f i lo we st) = some (0, g_M S c p f i lo we st) := by
  unfold fX9_walksOn
  rw [g_M_82, m_row_27, if_neg h0]
/-- the rest of the row -/
theorem e_mtz {S : dk_S} {r N : Nat} (hr : r < 6) (hN : N ≤ 60) {c : Nat → Int32} {p f i lo we : Int32} {st c0 : Nat} : ∀ (m t : Nat) (g : Nat → Int32), t ≤ 60 → 60 - t < m → (N ≤ t ∨ ¬ i = 0) →
    fX9_tocks_L65 (nI N) (nI r) m (nI c0) (nI t) (g_M (dk_sr S 85 g) c p f i lo we st) = (fX9_storeWalk (g_M (dk_sr S 85 (fun j => if 60 * r + t ≤ j ∧ j < 60 * r + 60 then 0 else g j)) c p f i lo we st)).bind (fun q => some (nI c0, q)) := by
  intro m
  induction m with
  | zero => intro t g h1 h2; omega
  | succ m ih =>
    intro t g h1 h2 h3
    rw [fX9_tocks_L65]
    by_cases h : t = 60
    · subst h
      rw [if_pos (show (60 : Int32) ≤ nI 60 from by decide)]
      congr 3
      congr 1
      funext j
      rw [if_neg (by omega)]
    · rw [if_neg (show ¬ (60 : Int32) ≤ nI t from fun q => by have := (nI_leI (a := 60) (by omega) (by omega)).mp q; omega)]
      have e60 : (60 : Int32) * nI r + nI t = nI (60 * r + t) := by rw [show (60 : Int32) = nI 60 from rfl, nI_mul, nI_add]
      have hz : ∀ T : dk_S, T = g_M (dk_sr S 85 g) c p f i lo we st → (dk_gd (dk_in ((60 * nI r) + nI t) 360) (dk_lt (dk_si T 85 ((60 * nI r) + nI t).toNatClampNeg 0) (fun S14 => dk_lt (nI c0 + 0) (fun y16 : Int32 => fX9_tocks_L65 (nI N) (nI r) m y16 (nI t + 1) S14)))) = (fX9_storeWalk (g_M (dk_sr S 85 (fun j => if 60 * r + t ≤ j ∧ j < 60 * r + 60 then 0 else g j)) c p f i lo we st)).bind (fun q => some (nI c0, q)) := fun T hT => by
        subst hT
        rw [e60, dI_in (by omega) (by omega), dk_gd_t, dk_lt_eq, dk_lt_eq, nI_clamp (by omega), Int32.add_zero, nI_1, g_M_85, ih (t + 1) _ (by omega) (by omega) (h3.imp (fun q => by omega) id)]
        congr 3
        congr 1
        funext j
        simp only [upd_at]
        by_cases hj : j = 60 * r + t
        · subst hj
          rw [if_neg (show ¬ (60 * r + (t + 1) ≤ 60 * r + t ∧ 60 * r + t < 60 * r + 60) by omega), if_pos rfl, if_pos (show 60 * r + t ≤ 60 * r + t ∧ 60 * r + t < 60 * r + 60 by omega)]
        · by_cases hc : 60 * r + (t + 1) ≤ j ∧ j < 60 * r + 60
          · rw [if_pos hc, if_pos (show 60 * r + t ≤ j ∧ j < 60 * r + 60 by omega)]
          · rw [if_neg hc, if_neg hj, if_neg (show ¬ (60 * r + t ≤ j ∧ j < 60 * r + 60) by omega)]
      simp only [dk_lt_eq, if_true] at hz ⊢
      by_cases hNt : N ≤ t
      · rw [if_pos ((nI_leI (by omega) (by omega)).mpr hNt)]
        exact hz _ rfl
      · rw [if_neg (fun q => hNt ((nI_leI (by omega) (by omega)).mp q)), q_walksOn0 (h3.resolve_left hNt), some_bind', if_pos rfl]
        exact hz _ rfl
theorem e_mtk {S : dk_S} {sz : Nat → Int32} {rb sl : Int32} {c bs : Nat → Int32} {r : Nat} (hr : r < 6) (hT : m_T sz rb sl 0 0 S) (hok : a_ok sz) (hc : ∀ j, j < 25 → c j = S.1 82 j) (hb : ∀ j, j < 100 → S.1 98 (14 + j) = bs j) : ∀ (m k t st : Nat) (p f i lo we : Int32) (g : Nat → Int32), 60 - t < m → t + k ≤ 60 → st + k < 2 ^ 30 → (f = 0 ∨ f = 1) →
    fX9_tocks_L65 (nI (t + k)) (nI r) m (nI t) (nI t) (g_M (dk_sr S 85 g) c p f i lo we st) = (fX9_storeWalk (g_M (dk_sr S 85 (fun j => if 60 * r + (w_go (c_P sz sl rb) bs (sz 3) k t st p f i lo we).1 ≤ j ∧ j < 60 * r + 60 then 0 else w_tk (60 * r) (c_P sz sl rb) bs k t st p f i g j)) c (w_go (c_P sz sl rb) bs (sz 3) k t st p f i lo we).2.2.1 (w_go (c_P sz sl rb) bs (sz 3) k t st p f i lo we).2.2.2.1 (w_go (c_P sz sl rb) bs (sz 3) k t st p f i lo we).2.2.2.2.1 (w_go (c_P sz sl rb) bs (sz 3) k t st p f i lo we).2.2.2.2.2.1 (w_go (c_P sz sl rb) bs (sz 3) k t st p f i lo we).2.2.2.2.2.2 (w_go (c_P sz sl rb) bs (sz 3) k t st p f i lo we).2.1)).bind (fun q => some (nI (w_go (c_P sz sl rb) bs (sz 3) k t st p f i lo we).1, q)) := by
  intro m
  induction m with
  | zero => intro k t st p f i lo we g h1; omega
  | succ m ih =>
    intro k t st p f i lo we g h1 h2 h3 hf
    by_cases hk0 : k = 0
    · subst hk0
      exact e_mtz hr (by omega) (m + 1) t g (by omega) h1 (Or.inl (by omega))
    · obtain ⟨k, rfl⟩ : ∃ k', k = k' + 1 := ⟨k - 1, by omega⟩
      by_cases h0 : i = 0
      · subst h0
        rw [w_go, if_pos rfl, w_tk, if_pos rfl, fX9_tocks_L65, if_neg (show ¬ (60 : Int32) ≤ nI t from fun q => by have := (nI_leI (a := 60) (by omega) (by omega)).mp q; omega)]
        simp only [dk_lt_eq]
        have e60 : (60 : Int32) * nI r + nI t = nI (60 * r + t) := by rw [show (60 : Int32) = nI 60 from rfl, nI_mul, nI_add]
        have hT' : m_T sz rb sl 0 0 (dk_sr S 85 g) := by
          obtain ⟨t1, t2, t3, t4, t5, t6⟩ := hT
          exact ⟨fun j hj => by rw [dk_sr_ne _ _ (by omega)]; exact t1 j hj, by rw [dk_sr_ne _ _ (by omega)]; exact t2, by rw [dk_sr_ne _ _ (by omega)]; exact t3, by rw [dk_sr_ne _ _ (by omega)]; exact t4, by rw [dk_sr_ne _ _ (by omega)]; exact t5, by rw [dk_sr_ne _ _ (by omega)]; exact t6⟩
        rw [if_neg (show ¬ nI (t + (k + 1)) ≤ nI t from fun g => by have := (nI_leI (by omega) (by omega)).mp g; omega), q_walksOn hT' hok (fun j hj => by rw [dk_sr_ne _ _ (by omega)]; exact hc j hj) hf (by omega) (bs := bs) (fun j hj => by rw [dk_sr_ne _ _ (by omega)]; exact hb j hj), some_bind', if_neg (show ¬ (1 : Int32) = 0 by decide)]
        dsimp only
        rw [if_neg (show ¬ (1 : Int32) = 0 by decide), if_neg (show ¬ (1 : Int32) = 0 by decide), g_M_82, m_row_25, e60, dI_in (by omega) (by omega), dk_gd_t, nI_clamp (by omega), nI_1, g_M_85, show t + (k + 1) = t + 1 + k by omega]
        exact ih k (t + 1) (st + 1) _ _ _ _ _ _ (by omega) (by omega) (by omega) (p_S_f _ _ _ _ hf)
      · rw [w_go, if_neg h0, w_tk, if_neg h0]
        exact e_mtz hr (by omega) (m + 1) t g (by omega) h1 (Or.inr h0)
theorem dk_I_RK {n : Nat} {S S2 : dk_S} (hI : dk_I n S) (hA : i_A S2) (hR : i_R S2) (hK : i_K S2) (h : ∀ a, (43 ≤ a ∧ a ≤ 66) ∨ (87 ≤ a ∧ a ≤ 92) → S2.1 a = S.1 a) (h2 : S2.2 = S.2) : dk_I (n + 1) S2 := by
  obtain ⟨-, ⟨hX1, hX2, hX3, hX4, hX5⟩, hS⟩ := hI
  exact ⟨hA, ⟨hR, i_T_congr (fun a ha => h a (by omega)) hX2, i_W_congr (fun a ha => h a (by omega)) hX3, i_B_congr (fun a ha => h a (by omega)) hX4, hK⟩, i_S_up (i_S_congr h2 hS) (by omega)⟩
theorem pr_tocks (a1 : Int32) (a2 : Int32) {n : Nat} {S : dk_S} (hn : n < 512) (hI : dk_I n S) : ∃ (r : Int32) (S1 S2 : dk_S), fX8_tocks a1 a2 S = some (r, S1) ∧ fX9_tocks a1 a2 S1 = some (r, S2) ∧ dk_I (n + 1) S2 := by
  unfold fX8_tocks fX9_tocks
  simp only [q_isOutside, q_in, q_noRow, q_isRow, some_bind']
  have hK := hI.2.1.2.2.2.2
  obtain ⟨c1, c2, -⟩ := hK.1
  by_cases h : 0 ≤ a1 ∧ a1 ≤ 60
  · by_cases hh : 0 ≤ a2 ∧ a2 ≤ 5
    · simp only [if_pos h, if_pos hh, if_true, i_10, if_false]
      rw [c1]
      rcases c2 with c2 | c2
      · refine ⟨-4, S, S, by rw [c2, if_pos rfl], by rw [c2, if_pos rfl], dk_I_up hI⟩
      · obtain ⟨k, hk, rfl⟩ := dI_of (n := 60) (by omega) h.1 h.2
        obtain ⟨r, hr, rfl⟩ := b_row hh
        obtain ⟨st, hst, e6, e9, er, hf, hi, hok, hP, h3, hb⟩ := w_now hK.1 c2
        rw [c2, if_neg (show ¬ (1 : Int32) = 0 by decide), e6, nI_add]
        by_cases h10 : st + k ≤ 10000
        · rw [if_pos ((nle10k (by omega)).mpr h10), dI_in hr (by omega), dk_gd_t, nI_clamp (by omega), q_renew, some_bind']
          obtain ⟨S0, hS0⟩ : ∃ S0, S0 = q_ren S (31 + 2 * r) (nI k) := ⟨_, rfl⟩
          have s31 : S0.1 (31 + 2 * r) 1 = nI k := by rw [hS0]; unfold q_ren; rw [dk_sr_same, upd_same]
          have s32 : ∀ j, j < 60 → S0.1 (32 + 2 * r) j = 0 := fun j hj => by rw [hS0]; unfold q_ren; rw [dk_sr_ne _ _ (by omega), show 32 + 2 * r = 31 + 2 * r + 1 by omega, dk_sr_same, if_pos hj]
          have so : ∀ q, ¬ q = 31 + 2 * r → ¬ q = 32 + 2 * r → S0.1 q = S.1 q := fun q q1 q2 => by rw [hS0]; unfold q_ren; rw [dk_sr_ne _ _ q1, dk_sr_ne _ _ (by omega)]
          have s2 : S0.2 = S.2 := by rw [hS0]; rfl
          rw [← hS0]
          clear hS0
          have hz := w_go_ok (c_P (S.1 7) (S.1 5 3) (S.1 8 1)) (S.1 9) (S.1 7 3) k 0 st (S.1 98 7) (S.1 98 8) (S.1 98 10) (S.1 98 11) (S.1 98 12) hf hi
          have hc := e_ctk hr (c := S.1 5) dk_FU k 0 st (S.1 98 7) (S.1 98 8) (S.1 98 10) (S.1 98 11) (S.1 98 12) S0 (by have := dk_FU_ge; omega) (by omega) (by omega) (by rw [so 5 (by omega) (by omega)]; exact er)
          rw [so 7 (by omega) (by omega), so 8 (by omega) (by omega), so 9 (by omega) (by omega), Nat.zero_add] at hc
          have hti := w_tk_i 0 (60 * r) (c_P (S.1 7) (S.1 5 3) (S.1 8 1)) (S.1 9) (S.1 7 3) k 0 st (S.1 98 7) (S.1 98 8) (S.1 98 10) (S.1 98 11) (S.1 98 12) (S0.1 (32 + 2 * r)) (S.1 85)
          have hto := w_tk_o 0 (c_P (S.1 7) (S.1 5 3) (S.1 8 1)) (S.1 9) (S.1 7 3) k 0 st (S.1 98 7) (S.1 98 8) (S.1 98 10) (S.1 98 11) (S.1 98 12) (S0.1 (32 + 2 * r))
          have htm := w_tk_o (60 * r) (c_P (S.1 7) (S.1 5 3) (S.1 8 1)) (S.1 9) (S.1 7 3) k 0 st (S.1 98 7) (S.1 98 8) (S.1 98 10) (S.1 98 11) (S.1 98 12) (S.1 85)
          have hmm : ∀ (L : dk_S), L.1 98 = S.1 98 → L.1 85 = S.1 85 → m_T (S.1 98) (S.1 98 13) (S.1 98 6) 0 0 L → L.1 82 = m_row (L.1 82) (S.1 98 7) (S.1 98 8) (S.1 98 10) (S.1 98 11) (S.1 98 12) → _ := fun L q1 q2 q3 q4 => e_mtk (S := L) (sz := S.1 98) (rb := S.1 98 13) (sl := S.1 98 6) (c := L.1 82) (bs := S.1 9) hr q3 hok (fun _ _ => rfl) (fun j hj => by rw [q1]; exact hb j hj) dk_FU k 0 st (S.1 98 7) (S.1 98 8) (S.1 98 10) (S.1 98 11) (S.1 98 12) (S.1 85) (by have := dk_FU_ge; omega) (by omega) (by omega) hf
          rw [hP, h3] at hmm
          generalize hw : w_go (c_P (S.1 7) (S.1 5 3) (S.1 8 1)) (S.1 9) (S.1 7 3) k 0 st (S.1 98 7) (S.1 98 8) (S.1 98 10) (S.1 98 11) (S.1 98 12) = z at hz hc hti hto htm hmm
          generalize hg1 : w_tk 0 (c_P (S.1 7) (S.1 5 3) (S.1 8 1)) (S.1 9) k 0 st (S.1 98 7) (S.1 98 8) (S.1 98 10) (S0.1 (32 + 2 * r)) = G at hc hti hto
          generalize hg2 : w_tk (60 * r) (c_P (S.1 7) (S.1 5 3) (S.1 8 1)) (S.1 9) k 0 st (S.1 98 7) (S.1 98 8) (S.1 98 10) (S.1 85) = M at hti htm hmm
          obtain ⟨T, hT⟩ : ∃ T, T = dk_sr (dk_sr S0 5 (c_row (S.1 5) z.2.2.1 z.2.2.2.1 (nI z.2.1) z.2.2.2.2.1 z.2.2.2.2.2.1 z.2.2.2.2.2.2)) (32 + 2 * r) G := ⟨_, rfl⟩
          rw [← hT] at hc
          have t5 : T.1 5 = c_row (S.1 5) z.2.2.1 z.2.2.2.1 (nI z.2.1) z.2.2.2.2.1 z.2.2.2.2.2.1 z.2.2.2.2.2.2 := by rw [hT, dk_sr_ne _ _ (by omega), dk_sr_same]
          have t32 : T.1 (32 + 2 * r) = G := by rw [hT, dk_sr_same]
          have t31 : T.1 (31 + 2 * r) 1 = nI k := by rw [hT, dk_sr_ne _ _ (by omega), dk_sr_ne _ _ (by omega)]; exact s31
          have to : ∀ q, ¬ q = 5 → ¬ q = 31 + 2 * r → ¬ q = 32 + 2 * r → T.1 q = S.1 q := fun q q1 q2 q3 => by rw [hT, dk_sr_ne _ _ q3, dk_sr_ne _ _ q1, so q q2 q3]
          have t2 : T.2 = S.2 := by rw [hT]; exact s2
          clear hT
          have hc' : fX8_tocks_L62 (nI k) (nI r) dk_FU 0 S0 = some (nI z.1, T) := hc
          rw [hc']
          obtain ⟨L, l1, l2, l3, l4, l5, l6⟩ := q_layWalk T
          have to98 : T.1 98 = S.1 98 := to 98 (by omega) (by omega) (by omega)
          rw [to98] at l5 l6
          have l98 : L.1 98 = S.1 98 := by rw [l3 98 (by omega) (by omega) (by omega), to98]
          obtain ⟨L2, hL2⟩ : ∃ L2, L2 = dk_si L 84 r (nI k) := ⟨_, rfl⟩
          have k84 : L2.1 84 = upd (L.1 84) r (nI k) := by rw [hL2, dk_si_eq, dk_sr_same]
          have ko : ∀ q, ¬ q = 84 → L2.1 q = L.1 q := fun q q1 => by rw [hL2, dk_si_eq, dk_sr_ne _ _ q1]
          have k2 : L2.2 = S.2 := by rw [hL2, dk_si_eq, dk_sr_2, l2, t2]
          have k85 : L2.1 85 = S.1 85 := by rw [ko 85 (by omega), l3 85 (by omega) (by omega) (by omega), to 85 (by omega) (by omega) (by omega)]
          have kT : m_T (S.1 98) (S.1 98 13) (S.1 98 6) 0 0 L2 := by
            obtain ⟨t1, t2, t3, t4, t5, t6⟩ := l5
            exact ⟨fun j hj => by rw [ko 95 (by omega)]; exact t1 j hj, by rw [ko 82 (by omega)]; exact t2, by rw [ko 82 (by omega)]; exact t3, by rw [ko 96 (by omega)]; exact t4, by rw [ko 96 (by omega)]; exact t5, by rw [ko 82 (by omega)]; exact t6⟩
          have k82 : L2.1 82 = m_row (L2.1 82) (S.1 98 7) (S.1 98 8) (S.1 98 10) (S.1 98 11) (S.1 98 12) := by rw [ko 82 (by omega)]; exact l6
          have k98 : L2.1 98 = S.1 98 := by rw [ko 98 (by omega), l98]
          have hm := hmm L2 k98 k85 kT k82
          rw [show dk_sr L2 85 (S.1 85) = L2 by rw [← k85, dk_sr_id], g_M_self k82 (by rw [k98]; exact e9), Nat.zero_add] at hm
          obtain ⟨L3, hL3⟩ : ∃ L3, L3 = dk_sr L2 85 (fun j => if 60 * r + z.1 ≤ j ∧ j < 60 * r + 60 then 0 else M j) := ⟨_, rfl⟩
          have m85 : L3.1 85 = (fun j => if 60 * r + z.1 ≤ j ∧ j < 60 * r + 60 then 0 else M j) := by rw [hL3, dk_sr_same]
          have mo : ∀ q, ¬ q = 85 → L3.1 q = L2.1 q := fun q q1 => by rw [hL3, dk_sr_ne _ _ q1]
          have m2 : L3.2 = S.2 := by rw [hL3]; exact k2
          rw [← hL3] at hm
          obtain ⟨V, v1, v2, v3, v4, v5, v6, v7, v8, v9⟩ := q_store (g_M L3 (L2.1 82) z.2.2.1 z.2.2.2.1 z.2.2.2.2.1 z.2.2.2.2.2.1 z.2.2.2.2.2.2 z.2.1)
          rw [v1, some_bind'] at hm
          rw [g_M_82] at v4 v5 v6 v7 v8
          rw [g_M_98, mo 98 (by omega), k98] at v9
          have vo : ∀ q, ¬ q = 82 → ¬ q = 95 → ¬ q = 96 → ¬ q = 98 → ¬ q = 84 → ¬ q = 85 → V.1 q = T.1 q := fun q q1 q2 q3 q4 q5 q6 => by rw [v3 q q4, g_M_o _ _ _ _ _ _ _ _ q1 q4, mo q q6, ko q q5, l3 q q1 q2 q3]
          have vS : ∀ q, ¬ q = 82 → ¬ q = 95 → ¬ q = 96 → ¬ q = 98 → ¬ q = 84 → ¬ q = 85 → ¬ q = 5 → ¬ q = 31 + 2 * r → ¬ q = 32 + 2 * r → V.1 q = S.1 q := fun q q1 q2 q3 q4 q5 q6 q7 q8 q9 => by rw [vo q q1 q2 q3 q4 q5 q6, to q q7 q8 q9]
          have v85 : V.1 85 = (fun j => if 60 * r + z.1 ≤ j ∧ j < 60 * r + 60 then 0 else M j) := by rw [v3 85 (by omega), g_M_o _ _ _ _ _ _ _ _ (by omega) (by omega), m85]
          have v84 : V.1 84 = upd (S.1 84) r (nI k) := by rw [v3 84 (by omega), g_M_o _ _ _ _ _ _ _ _ (by omega) (by omega), mo 84 (by omega), k84, l3 84 (by omega) (by omega) (by omega), to 84 (by omega) (by omega) (by omega)]
          have vv2 : V.2 = S.2 := by rw [v2, show (g_M L3 (L2.1 82) z.2.2.1 z.2.2.2.1 z.2.2.2.2.1 z.2.2.2.2.2.1 z.2.2.2.2.2.2 z.2.1).2 = L3.2 from rfl, m2]
          have hVK : i_K V := by
            refine i_K_go hK (i_C_go (st := z.2.1) hK.1 c2 (by rw [vS 97 (by omega) (by omega) (by omega) (by omega) (by omega) (by omega) (by omega) (by omega) (by omega)]; exact c2) (vS 7 (by omega) (by omega) (by omega) (by omega) (by omega) (by omega) (by omega) (by omega) (by omega)) (vS 8 (by omega) (by omega) (by omega) (by omega) (by omega) (by omega) (by omega) (by omega) (by omega)) (vS 9 (by omega) (by omega) (by omega) (by omega) (by omega) (by omega) (by omega) (by omega) (by omega)) (by rw [vo 5 (by omega) (by omega) (by omega) (by omega) (by omega) (by omega)]; exact t5) (by omega) hz.2.2.2.1 hz.2.2.2.2 v4 v5 (by rw [v9 9 (by omega), upd_same]) v6 v7 v8 (fun j hj => by rw [v9 j (by omega), upd_ne _ _ (by omega)])) (fun f hf => by rw [vS 97 (by omega) (by omega) (by omega) (by omega) (by omega) (by omega) (by omega) (by omega) (by omega)]) (fun j hj => by rw [v9 j (by omega), upd_ne _ _ (by omega)]) (fun q q1 q2 => vS q (by omega) (by omega) (by omega) (by omega) (by omega) (by omega) (by omega) (by omega) (by omega))
          have v82 : ∀ j, j < 20 → V.1 82 j = S.1 82 j := fun j hj => by
            rw [v3 82 (by omega), g_M_82, m_row_o _ _ _ _ _ _ (by omega), ko 82 (by omega), l4 j hj, to 82 (by omega) (by omega) (by omega)]
          have hVR : i_R V := by
            intro q hq
            obtain ⟨b1, b2, b3⟩ := hI.2.1.1 q hq
            by_cases hqr : q = r
            · subst hqr
              refine ⟨?_, Or.inr ⟨k, hk, by rw [v84, upd_same]⟩, fun j hj => ?_⟩
              · rw [vo _ (by omega) (by omega) (by omega) (by omega) (by omega) (by omega), t31, v84, upd_same]
              · rw [vo _ (by omega) (by omega) (by omega) (by omega) (by omega) (by omega), t32, v85]
                dsimp only
                by_cases hjz : z.1 ≤ j
                · rw [if_pos (by omega), hto j (by omega), s32 j hj]
                · rw [if_neg (by omega)]
                  have := hti j (by omega) (by omega)
                  rw [Nat.zero_add] at this
                  exact this
            · refine ⟨?_, ?_, fun j hj => ?_⟩
              · rw [vS _ (by omega) (by omega) (by omega) (by omega) (by omega) (by omega) (by omega) (by omega) (by omega), v84, upd_ne _ _ hqr]; exact b1
              · rw [v84, upd_ne _ _ hqr]; exact b2
              · rw [vS _ (by omega) (by omega) (by omega) (by omega) (by omega) (by omega) (by omega) (by omega) (by omega), v85]
                dsimp only
                rw [if_neg (by omega), htm _ (by omega)]
                exact b3 j hj
          refine ⟨_, T, V, rfl, ?_, ?_⟩
          · rw [to 97 (by omega) (by omega) (by omega), c2, if_neg (show ¬ (1 : Int32) = 0 by decide), to98, e9, nI_add, if_pos ((nle10k (by omega)).mpr h10), l1, some_bind', dk_gd_t, dk_lt_eq, ← hL2]
            exact hm
          · exact dk_I_RK hI (i_A_go (S := S) (vS 0 (by omega) (by omega) (by omega) (by omega) (by omega) (by omega) (by omega) (by omega) (by omega)) (vS 30 (by omega) (by omega) (by omega) (by omega) (by omega) (by omega) (by omega) (by omega) (by omega)) v82 (vS 83 (by omega) (by omega) (by omega) (by omega) (by omega) (by omega) (by omega) (by omega) (by omega)) vv2 hI.1) hVR hVK (fun q hq => vS q (by omega) (by omega) (by omega) (by omega) (by omega) (by omega) (by omega) (by omega) (by omega)) vv2
        · rw [if_neg (fun q => h10 ((nle10k (by omega)).mp q))]
          refine ⟨_, _, _, rfl, ?_, dk_I_up hI⟩
          rw [c2, if_neg (show ¬ (1 : Int32) = 0 by decide), e9, nI_add, if_neg (fun q => h10 ((nle10k (by omega)).mp q))]
    · simp only [if_pos h, if_neg hh, i_10, if_false, if_true]
      exact ⟨_, _, _, rfl, rfl, dk_I_up hI⟩
  · simp only [if_neg h, i_10, if_false, if_true]
    exact ⟨_, _, _, rfl, rfl, dk_I_up hI⟩
