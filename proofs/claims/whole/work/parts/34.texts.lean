/-! texts: text, put -/
theorem nar_b32 : vp_nar .byte 32 = 32 := by decide
theorem e_fillb (k n : Nat) (v : Int32) (hn : n < 2 ^ 31) : ∀ (m i : Nat) (S : dk_S), i ≤ n → n - i < m → fJ7_fill_031fb_L5 k n v (nI n) m (nI i) S = some (dk_sr S k (fun j => if i ≤ j ∧ j < n then vp_nar .byte v else S.1 k j)) := by
  intro m
  induction m with
  | zero => intro i S h1 h2; omega
  | succ m ih =>
    intro i S h1 h2
    rw [fJ7_fill_031fb_L5]
    by_cases h : n ≤ i
    · rw [if_pos ((nI_leI hn (by omega)).mpr h)]
      congr 1
      conv => lhs; rw [← dk_sr_id S k]
      congr 1
      funext j
      rw [if_neg (by omega)]
    · rw [if_neg (fun q => h ((nI_leI hn (by omega)).mp q)), dI_in (by omega) hn, dk_gd_t, dk_lt_eq, nI_1, nI_clamp (by omega), ih (i + 1) _ (by omega) (by omega), dk_si_eq, dk_sr_sr, dk_sr_same]
      congr 2
      funext j
      by_cases hj : j = i
      · subst hj
        rw [if_neg (by omega), if_pos (by omega), upd_same]
      · rw [upd_ne _ _ hj]
        by_cases hj2 : i ≤ j ∧ j < n
        · rw [if_pos hj2, if_pos (by omega)]
        · rw [if_neg hj2, if_neg (by omega)]
def q_renT (S : dk_S) (k : Nat) (x : Int32) : dk_S := dk_sr (dk_sr S (k + 1) (fun j => if j < 80 then 32 else S.1 (k + 1) j)) k (upd (S.1 k) 1 x)
theorem q_renewT (k : Nat) (x : Int32) (S : dk_S) : fX6_renew k x S = some (q_renT S k x) := by
  unfold fX6_renew fJ7_fill_031fb
  have h := e_fillb (k + 1) 80 32 (by omega) dk_FU 0 S (by omega) (by have := dk_FU_ge; omega)
  rw [nI_0] at h
  rw [dk_lt_eq, show Int32.ofNat 80 = nI 80 from rfl, h, some_bind', dk_lt_eq, dk_si_eq, dk_sr_ne _ _ (by omega), nar_b32]
  unfold q_renT
  congr 3
  funext j
  by_cases hj : j < 80
  · rw [if_pos (by omega), if_pos hj]
  · rw [if_neg (by omega), if_neg hj]
theorem e_mtext (r : Nat) (x2 : Int32) (hr : r < 4) : ∀ (m i : Nat) (S : dk_S), i ≤ 80 → 80 - i < m → fX9_text_L34 (nI r) x2 m (nI i) S = some (x2, dk_sr S 88 (fun j => if 80 * r + i ≤ j ∧ j < 80 * r + 80 then 32 else S.1 88 j)) := by
  intro m
  induction m with
  | zero => intro i S h1 h2; omega
  | succ m ih =>
    intro i S h1 h2
    rw [fX9_text_L34, show (80 : Int32) = nI 80 from rfl, nI_mul, nI_add]
    by_cases h : 80 ≤ i
    · rw [if_pos ((nI_leI (by omega) (by omega)).mpr h)]
      congr 2
      conv => lhs; rw [← dk_sr_id S 88]
      congr 1
      funext j
      rw [if_neg (by omega)]
    · rw [if_neg (fun q => h ((nI_leI (by omega) (by omega)).mp q)), dI_in (by omega) (by omega), dk_gd_t, dk_lt_eq, nI_1, nI_clamp (by omega), ih (i + 1) _ (by omega) (by omega), dk_si_eq, dk_sr_sr, dk_sr_same, nar_b32]
      congr 3
      funext j
      by_cases hj : j = 80 * r + i
      · subst hj
        rw [if_neg (by omega), if_pos (by omega), upd_same]
      · rw [upd_ne _ _ hj]
        by_cases hj2 : 80 * r + i ≤ j ∧ j < 80 * r + 80
        · rw [if_pos hj2, if_pos (by omega)]
        · rw [if_neg hj2, if_neg (by omega)]
theorem q_mtext (r : Nat) (x2 : Int32) (hr : r < 4) (S : dk_S) : fX9_text_L34 (nI r) x2 dk_FU 0 S = some (x2, dk_sr S 88 (fun j => if 80 * r ≤ j ∧ j < 80 * r + 80 then 32 else S.1 88 j)) := by
  have h := e_mtext r x2 hr dk_FU 0 S (by omega) (by have := dk_FU_ge; omega)
  rw [nI_0] at h
  exact h
theorem b_80 {x : Int32} (h0 : 0 ≤ x) (h1 : x ≤ 80) : ∃ r, r ≤ 80 ∧ x = nI r := dI_of (n := 80) (by omega) h0 h1
theorem pr_text (a1 : Int32) (a2 : Int32) {n : Nat} {S : dk_S} (hn : n < 512) (hI : dk_I n S) : ∃ (r : Int32) (S1 S2 : dk_S), fX8_text a1 a2 S = some (r, S1) ∧ fX9_text a1 a2 S1 = some (r, S2) ∧ dk_I (n + 1) S2 := by
  unfold fX8_text fX9_text
  simp only [q_noText, q_isText, some_bind']
  by_cases h1 : 0 ≤ a1 ∧ a1 ≤ 3
  · by_cases h2 : a2 ≤ 80
    · by_cases h3 : 0 ≤ a2
      · simp only [h1, h2, h3, and_self, if_true, if_false, i_10]
        obtain ⟨r, hr, rfl⟩ := b_4 h1
        obtain ⟨z, hz, rfl⟩ := b_80 h3 h2
        simp only [dI_in hr (by omega : (4 : Nat) < 2 ^ 31), dk_gd_t, nI_clamp (by omega : r < 2 ^ 31), q_renewT, some_bind', dk_lt_eq]
        refine ⟨_, _, dk_sr (dk_si (q_renT S (43 + 2 * r) (nI z)) 87 r (nI z)) 88 (fun j => if 80 * r ≤ j ∧ j < 80 * r + 80 then 32 else (dk_si (q_renT S (43 + 2 * r) (nI z)) 87 r (nI z)).1 88 j), rfl, ?_, ?_⟩
        · exact q_mtext r (nI z) hr _
        · refine dk_I_T hI (i_A_congr (S := S) ?_ ?_ ?_ ?_ rfl hI.1) ?_ (fun a ha => ?_) rfl
          · simp (disch := omega) only [q_renT, dk_si_eq, dk_sr_ne]
          · simp (disch := omega) only [q_renT, dk_si_eq, dk_sr_ne]
          · simp (disch := omega) only [q_renT, dk_si_eq, dk_sr_ne]
          · simp (disch := omega) only [q_renT, dk_si_eq, dk_sr_ne]
          · intro q hq
            obtain ⟨b1, b2, b3⟩ := hI.2.1.2.1 q hq
            by_cases hqr : q = r
            · subst hqr
              simp (disch := omega) only [q_renT, dk_si_eq, dk_sr_ne, dk_sr_same, upd_same]
              refine ⟨trivial, Or.inr ⟨z, hz, rfl⟩, fun i hi => ?_⟩
              rw [show 44 + 2 * q = 43 + 2 * q + 1 by omega, dk_sr_same, if_pos hi, if_pos (by omega)]
            · simp (disch := omega) only [q_renT, dk_si_eq, dk_sr_ne, dk_sr_same, upd_ne]
              refine ⟨b1, b2, fun i hi => ?_⟩
              rw [if_neg (by omega)]
              exact b3 i hi
          · simp (disch := omega) only [q_renT, dk_si_eq, dk_sr_ne]
      · simp only [h1, h2, h3, and_self, if_true, if_false, i_10, q_found5, some_bind', q_notes5]
        exact ⟨_, _, _, rfl, rfl, dk_I_fn (by omega) hI⟩
    · simp only [h1, h2, and_self, if_true, if_false, i_10]
      exact ⟨_, _, _, rfl, rfl, dk_I_up hI⟩
  · simp only [h1, if_false, if_true, i_10]
    exact ⟨_, _, _, rfl, rfl, dk_I_up hI⟩
theorem ct_miss {S : dk_S} {k : Nat} (h : S.1 k 1 = -1) : fX6_isMissing k S = some (1, S) := by
  unfold fX6_isMissing
  rw [h, if_neg m1_neg]
theorem ct_there {S : dk_S} {k z : Nat} (h : S.1 k 1 = nI z) (hz : z < 2 ^ 31) : fX6_isMissing k S = some (0, S) := by
  unfold fX6_isMissing
  rw [h, if_pos (nI_ge0 hz)]
theorem ct_has {S : dk_S} {k z : Nat} (h : S.1 k 1 = nI z) (hz : z ≤ 80) (x : Int32) : fX6_has k x S = some (if 0 ≤ x ∧ x ≤ nI z - 1 then 1 else 0, S) := by
  unfold fX6_has
  rw [h]
  by_cases h1 : x < 0
  · rw [if_pos h1, if_neg (fun q => ((c_has_iff hz).mp q).1 h1)]
  · by_cases h2 : nI z ≤ x
    · rw [if_neg h1, if_pos h2, if_neg (fun q => ((c_has_iff hz).mp q).2 h2)]
    · rw [if_neg h1, if_neg h2, if_pos ((c_has_iff hz).mpr ⟨h1, h2⟩)]
theorem pr_put (a1 : Int32) (a2 : Int32) (a3 : Int32) {n : Nat} {S : dk_S} (hn : n < 512) (hI : dk_I n S) : ∃ (r : Int32) (S1 S2 : dk_S), fX8_put a1 a2 a3 S = some (r, S1) ∧ fX9_put a1 a2 a3 S1 = some (r, S2) ∧ dk_I (n + 1) S2 := by
  unfold fX8_put fX9_put
  simp only [q_noText, q_isText, some_bind']
  by_cases h1 : 0 ≤ a1 ∧ a1 ≤ 3
  · simp only [h1, and_self, if_true, if_false, i_10]
    obtain ⟨r, hr, rfl⟩ := b_4 h1
    obtain ⟨b1, b2, b3⟩ := hI.2.1.2.1 r hr
    simp only [dI_in hr (by omega : (4 : Nat) < 2 ^ 31), dk_gd_t, nI_clamp (by omega : r < 2 ^ 31)]
    rcases b2 with b2 | ⟨z, hz, b2⟩
    · simp only [ct_miss (b1.trans b2), some_bind', i_10, if_false, q_found1]
      refine ⟨_, _, _, rfl, ?_, dk_I_fn (f := 1) (by omega) hI⟩
      rw [q_fnd_ne _ _ (by omega) (by omega), b2, if_neg m1_neg, q_notes1]
      rfl
    · simp only [ct_there (b1.trans b2) (by omega), some_bind', if_true, ct_has (b1.trans b2) (by omega : z ≤ 80)]
      by_cases h2 : 0 ≤ a2 ∧ a2 ≤ nI z - 1
      · simp only [if_pos h2, i_10, if_false, q_in, some_bind']
        obtain ⟨i, hi, rfl⟩ := b_has (by omega) h2
        simp only [dI_in (by omega : i < 80) (by omega : (80 : Nat) < 2 ^ 31), dk_gd_t, nI_clamp (by omega : i < 2 ^ 31), dk_lt_eq]
        have hb := b3 i (by omega)
        rw [show 44 + 2 * r = 43 + 2 * r + 1 by omega] at hb
        generalize vp_nar .byte a3.toInt8.toInt32 = w
        refine ⟨_, _, dk_si (dk_si S (43 + 2 * r + 1) i w) 88 (80 * r + i) w, rfl, ?_, ?_⟩
        · have e87 : (dk_si S (43 + 2 * r + 1) i w).1 87 = S.1 87 := by
            simp (disch := omega) only [dk_si_eq, dk_sr_ne]
          have e88 : (dk_si S (43 + 2 * r + 1) i w).1 88 = S.1 88 := by
            simp (disch := omega) only [dk_si_eq, dk_sr_ne]
          rw [e87, b2, if_pos (nI_ge0 (by omega)), if_pos h2, if_neg (by decide)]
          rw [show (80 : Int32) = nI 80 from rfl, nI_mul, nI_add, dI_in (by omega) (by omega), nI_clamp (by omega), e88, ← hb, Int32.add_comm]
          rfl
        · refine dk_I_T hI (i_A_congr (S := S) ?_ ?_ ?_ ?_ rfl hI.1) ?_ (fun a ha => ?_) rfl
          · simp (disch := omega) only [dk_si_eq, dk_sr_ne]
          · simp (disch := omega) only [dk_si_eq, dk_sr_ne]
          · simp (disch := omega) only [dk_si_eq, dk_sr_ne]
          · simp (disch := omega) only [dk_si_eq, dk_sr_ne]
          · intro q hq
            obtain ⟨e1, e2, e3⟩ := hI.2.1.2.1 q hq
            by_cases hqr : q = r
            · subst hqr
              rw [show 44 + 2 * q = 43 + 2 * q + 1 by omega] at e3 ⊢
              simp (disch := omega) only [dk_si_eq, dk_sr_ne, dk_sr_same]
              refine ⟨e1, e2, fun j hj => ?_⟩
              by_cases hji : j = i
              · subst hji
                rw [upd_same, upd_same]
              · rw [upd_ne _ _ hji, upd_ne _ _ (by omega)]
                exact e3 j hj
            · simp (disch := omega) only [dk_si_eq, dk_sr_ne, dk_sr_same]
              refine ⟨e1, e2, fun j hj => ?_⟩
              rw [upd_ne _ _ (by omega)]
              exact e3 j hj
          · simp (disch := omega) only [dk_si_eq, dk_sr_ne]
      · simp only [if_neg h2, if_true, q_found2, some_bind', q_in]
        refine ⟨_, _, _, rfl, ?_, dk_I_fn (f := 2) (by omega) hI⟩
        rw [q_fnd_ne _ _ (by omega) (by omega), b2, if_pos (nI_ge0 (by omega)), if_neg h2, if_pos rfl, q_notes2]
        rfl
  · simp only [h1, if_false, if_true, i_10]
    exact ⟨_, _, _, rfl, rfl, dk_I_up hI⟩
