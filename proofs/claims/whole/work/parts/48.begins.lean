/-! begins -/
theorem e_begins {S0 : dk_S} {sz : Nat → Int32} {rb sl : Int32} {B : Int} (hl : (20 + 8 * sz 0).toInt ≤ 99) (hB2 : B ≤ 7000000000) : ∀ (m s : Nat) (S : dk_S), s ≤ 100 → s < m → c_T sz rb S → c_sm S0 S → c_ok (B + 401 * (100 - s : Nat)) S →
    ∃ T, fX8_begins_L38 sl m (nI (n_c (fun t => g_w (c_P sz sl rb) t) (100 - s) s)) (n_f (fun t => g_w (c_P sz sl rb) t) (100 - s) s) (nI s + (-1)) S = some (nI (n_c (fun t => g_w (c_P sz sl rb) t) 100 0), dk_sr T 0 (upd (T.1 0) 12 (n_f (fun t => g_w (c_P sz sl rb) t) 100 0))) ∧ c_sm S0 T ∧ c_ok (B + 40100) T := by
  intro m
  induction m with
  | zero => intro s S h1 h2; omega
  | succ m ih =>
    intro s S h1 h2 hT hsm hok
    rw [fX8_begins_L38]
    cases s with
    | zero =>
      rw [if_pos (by decide), q_tell, some_bind']
      exact ⟨S, rfl, hsm, hok.up (by omega)⟩
    | succ s =>
      rw [show nI (s + 1) + (-1) = nI s by rw [← nI_pred s, Int32.sub_eq_add_neg], if_neg (nI_pos (by omega))]
      obtain ⟨T, f1, f2, f3, f4, -, -⟩ := q_well (a := s) sl hT hl hok (by omega) (by omega)
      rw [f1, some_bind', dk_lt_eq]
      have hk : 100 - s = (100 - (s + 1)) + 1 := by omega
      obtain ⟨T2, g1, g2, g3⟩ := ih s T (by omega) (by omega) f2 (hsm.tr f3) (f4.up (by omega))
      refine ⟨T2, ?_, g2, g3⟩
      rw [← g1, hk, n_c, n_f]
      dsimp only
      cases hb : g_w (c_P sz sl rb) s with
      | true =>
        rw [if_neg k_b_t, if_pos rfl, if_pos rfl, nI_1, Nat.add_comm 1]
      | false =>
        rw [if_pos k_b_f, if_neg (show ¬ (false = true) by decide), if_neg (show ¬ (false = true) by decide), Nat.zero_add]
theorem e_mbegins {S0 : dk_S} {sz : Nat → Int32} {rb sl : Int32} (hok : a_ok sz) : ∀ (m s c : Nat) (fi : Int32) (S : dk_S), s ≤ 100 → 100 - s < m → c ≤ s → (c = 0 → fi = -9) → m_T sz rb sl 0 0 S → m_sm S0 S →
    ∃ T, fX9_begins_L29 m fi (nI c) (nI s) S = some (nI (c + n_c (fun t => g_w (c_P sz sl rb) t) (100 - s) s), dk_sr T 82 (upd (T.1 82) 2 (if c = 0 then n_f (fun t => g_w (c_P sz sl rb) t) (100 - s) s else fi))) ∧ m_sm S0 T := by
  intro m
  induction m with
  | zero => intro s c fi S h1 h2; omega
  | succ m ih =>
    intro s c fi S h1 h2 hc hfi hT hsm
    rw [fX9_begins_L29]
    by_cases hs : s = 100
    · subst hs
      rw [if_pos (show (99 : Int32) < nI 100 from by decide), q_tells, some_bind']
      refine ⟨S, ?_, hsm⟩
      show _ = some (nI (c + 0), dk_sr S 82 (upd (S.1 82) 2 (if c = 0 then -9 else fi)))
      by_cases h0 : c = 0
      · rw [if_pos h0, hfi h0]; rfl
      · rw [if_neg h0]; rfl
    · rw [if_neg (show ¬ (99 : Int32) < nI s from fun q => by have := (nI_ltI (a := 99) (by omega) (by omega)).mp q; omega)]
      obtain ⟨T, f1, f2, f3, -⟩ := q_mwell (a := s) hT hok (by omega)
      rw [← a_P_c hok] at f1
      rw [f1, some_bind', dk_lt_eq]
      have hk : 100 - s = (100 - (s + 1)) + 1 := by omega
      rw [hk, n_c, n_f]
      dsimp only
      cases hb : g_w (c_P sz sl rb) s with
      | true =>
        obtain ⟨T2, g1, g2⟩ := ih (s + 1) (c + 1) (if nI c = 0 then nI s else fi) T (by omega) (by omega) (by omega) (fun h => by omega) f2 (hsm.tr f3)
        refine ⟨T2, ?_, g2⟩
        have hcc : (if nI c = 0 then nI s else fi) = (if c = 0 then nI s else fi) := by
          by_cases h0 : c = 0
          · rw [if_pos h0, if_pos (by rw [h0]; rfl)]
          · rw [if_neg h0, if_neg (nI_ne0 (by omega) (by omega))]
        rw [if_neg k_b_t, dk_lt_eq, nI_1, nI_1, g1, if_pos rfl, if_pos rfl, if_neg (by omega), Nat.add_assoc, hcc]
      | false =>
        obtain ⟨T2, g1, g2⟩ := ih (s + 1) c fi T (by omega) (by omega) (by omega) hfi f2 (hsm.tr f3)
        refine ⟨T2, ?_, g2⟩
        rw [if_pos k_b_f, nI_1, g1, if_neg (show ¬ (false = true) by decide), if_neg (show ¬ (false = true) by decide), Nat.zero_add]
theorem pr_begins (a1 : Int32) (a2 : Int32) (a3 : Int32) {n : Nat} {S : dk_S} (hn : n < 512) (hI : dk_I n S) : ∃ (r : Int32) (S1 S2 : dk_S), fX8_begins a1 a2 a3 S = some (r, S1) ∧ fX9_begins a1 a2 a3 S1 = some (r, S2) ∧ dk_I (n + 1) S2 := by
  unfold fX8_begins fX9_begins
  by_cases hg : h_g a1 a2 a3 0
  · rw [q_nG_t hg, some_bind', if_pos rfl]
    obtain ⟨k, l, t, a, hk, hl, ht, ha, rfl, rfl, rfl, e0⟩ := h_g_of hg
    rcases h_two hI hk hl with ⟨S1, sz, rb, e1, e2, e3, e4, e5, -, -, -, e8⟩ | ⟨e1, e2⟩
    · rw [e1, some_bind', if_neg (show ¬ (1 : Int32) = 0 by decide)]
      have hok := a_ok_sz e5
      obtain ⟨T, f1, f2, f3⟩ := e_begins (S0 := S) (sl := nI t) (B := 10000000 * (n : Int)) hok.2 (by omega) dk_FU 100 S1 (by omega) (by have := dk_FU_ge; omega) e2 e3 (((c_ok.of hI.2.2).c (by rw [e4]) (by rw [e4])).up (by omega))
      have f1' : fX8_begins_L38 (nI t) dk_FU 0 (-9) 99 S1 = _ := f1
      rw [f1']
      obtain ⟨S2, g1, g2, g3⟩ := e8 (dk_sr T 0 (upd (T.1 0) 12 (n_f (fun u => g_w (c_P sz (nI t) rb) u) 100 0))) 1 t 0 (by decide) ht (by omega) (m_hi f2)
      obtain ⟨T2, k1, k2⟩ := e_mbegins (S0 := dk_sr T 0 (upd (T.1 0) 12 (n_f (fun u => g_w (c_P sz (nI t) rb) u) 100 0))) hok dk_FU 0 0 (-9) S2 (by omega) (by have := dk_FU_ge; omega) (by omega) (fun _ => rfl) g2 g3
      refine ⟨_, _, _, rfl, ?_, an_tell hI f2 f3 (by omega) k2⟩
      rw [nI_0] at g1 k1
      rw [g1, some_bind', if_pos (show (0 : Int32) ≤ 0 by decide), k1, Nat.zero_add, if_pos rfl]
    · rw [e1, some_bind', if_pos rfl, q_found1, some_bind']
      refine ⟨_, _, _, rfl, ?_, dk_I_fn (f := 1) (by omega) hI⟩
      have h2 := e2 1 t 0 (by decide) ht (by omega)
      rw [nI_0] at h2
      rw [h2, some_bind', if_neg n3neg]
  · rw [q_nG_f hg, some_bind', if_neg (show ¬ (1 : Int32) = 0 by decide)]
    refine ⟨_, _, _, rfl, ?_, dk_I_up hI⟩
    rw [q_need_bad (Or.inr hg), some_bind', if_neg n1neg]
