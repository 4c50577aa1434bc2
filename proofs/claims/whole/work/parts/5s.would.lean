/-! would: what is not told -/
def pc (u : Nat) : Nat := u % 2 + u / 2 % 2 + u / 4 % 2 + u / 8 % 2
theorem c16 {P : Nat → Prop} {u : Nat} (hu : u < 16) (h : ∀ v : Fin 16, P v.1) : P u := h ⟨u, hu⟩
theorem q_bc {u : Nat} (hu : u < 16) (S : dk_S) : fJ6_bitCount_0f7a4 (nI u) S = some (nI (pc u), S) := by
  unfold fJ6_bitCount_0f7a4
  simp only [dk_lt_eq]
  rcases (show u = 0 ∨ u = 1 ∨ u = 2 ∨ u = 3 ∨ u = 4 ∨ u = 5 ∨ u = 6 ∨ u = 7 ∨ u = 8 ∨ u = 9 ∨ u = 10 ∨ u = 11 ∨ u = 12 ∨ u = 13 ∨ u = 14 ∨ u = 15 by omega) with rfl | rfl | rfl | rfl | rfl | rfl | rfl | rfl | rfl | rfl | rfl | rfl | rfl | rfl | rfl | rfl <;> exact congrArg (fun x => some (x, S)) (by decide +kernel)
theorem bits_tab : ∀ u : Fin 16, ¬ u.1 = 0 → (nI u.1 &&& (nI u.1 - 1) = nI (u.1 &&& (u.1 - 1))) ∧ pc u.1 = pc (u.1 &&& (u.1 - 1)) + 1 ∧ u.1 &&& (u.1 - 1) < 16 := by decide +kernel
theorem pc_le {u : Nat} : pc u ≤ 4 := by unfold pc; omega
theorem e_bits {S : dk_S} : ∀ (m u c : Nat), u < 16 → pc u < m → fX9_bits_L4 m (nI c) (nI u) S = some (nI (c + pc u), S) := by
  intro m
  induction m with
  | zero => intro u c h1 h2; omega
  | succ m ih =>
    intro u c h1 h2
    rw [fX9_bits_L4]
    by_cases h : u = 0
    · subst h
      rw [if_pos (show nI 0 = 0 from rfl)]
      rfl
    · obtain ⟨t1, t2, t3⟩ := bits_tab ⟨u, h1⟩ h
      dsimp only at t1 t2 t3
      rw [if_neg (nI_ne0 (by omega) (by omega)), dk_lt_eq, t1, nI_1, ih _ _ t3 (by omega), t2]
      congr 3
      omega
theorem q_bits {u : Nat} (hu : u < 16) (S : dk_S) : fX9_bits (nI u) S = some (nI (pc u), S) := by
  have := e_bits (S := S) dk_FU u 0 hu (by have := dk_FU_ge; have := pc_le (u := u); omega)
  rw [nI_0, Nat.zero_add] at this
  exact this
theorem bit_tab : ∀ u : Fin 16, ∀ i : Fin 4, ((nI u.1 >>> (nI i.1 &&& 31)) &&& 1) = nI (u.1 / 2 ^ i.1 % 2) := by decide +kernel
theorem q_bit {u i : Nat} (hu : u < 16) (hi : i < 4) : ((nI u >>> (nI i &&& 31)) &&& 1) = nI (u / 2 ^ i % 2) := bit_tab ⟨u, hu⟩ ⟨i, hi⟩
theorem q_unt {S : dk_S} {k u i : Nat} (h : S.1 k 1 = nI u) (hu : u < 16) (hi : i < 4) : fX1_isUntold k (nI i) S = some (if u / 2 ^ i % 2 = 0 then 0 else 1, S) := by
  unfold fX1_isUntold
  rw [h, q_bit hu hi]
  have h2 : u / 2 ^ i % 2 < 2 := Nat.mod_lt _ (by omega)
  by_cases h0 : u / 2 ^ i % 2 = 0
  · rw [if_pos h0, if_pos (by rw [h0]; rfl)]
  · rw [if_neg h0, if_neg (nI_ne0 (by omega) (by omega))]
def w_w (u : Nat) : Nat → Nat → Nat → Nat
  | 0, _, a => a
  | c + 1, i, a => w_w u c (i + 1) (a * (if u / 2 ^ i % 2 = 0 then 1 else 9))
theorem w_w_tab : ∀ u : Fin 16, w_w u.1 4 0 1 = 9 ^ pc u.1 := by decide +kernel
theorem e_ways {S : dk_S} {k u : Nat} (h : S.1 k 1 = nI u) (hu : u < 16) : ∀ (m i a : Nat), i ≤ 4 → 4 - i < m → fX1_ways_L4 k m (nI a) (nI i) S = some (nI (w_w u (4 - i) i a), S) := by
  intro m
  induction m with
  | zero => intro i a h1 h2; omega
  | succ m ih =>
    intro i a h1 h2
    rw [fX1_ways_L4]
    by_cases hi : i = 4
    · subst hi
      rw [if_pos (show (3 : Int32) < nI 4 from by decide)]
      rfl
    · rw [if_neg (show ¬ (3 : Int32) < nI i from fun g => by have := (nI_ltI (a := 3) (by omega) (by omega)).mp g; omega), q_unt h hu (by omega), some_bind', dk_lt_eq, dk_lt_eq, nI_1, show 4 - i = (4 - (i + 1)) + 1 by omega, w_w, ← ih (i + 1) _ (by omega) (by omega)]
      congr 1
      dsimp only
      by_cases h0 : u / 2 ^ i % 2 = 0
      · rw [if_pos h0, if_pos rfl, if_pos h0, show (1 : Int32) = nI 1 from rfl, nI_mul]
      · rw [if_neg h0, if_neg (show ¬ (1 : Int32) = 0 by decide), if_neg h0, show (9 : Int32) = nI 9 from rfl, nI_mul]
theorem q_ways {S : dk_S} {k u : Nat} (h : S.1 k 1 = nI u) (hu : u < 16) : fX1_ways k S = some (nI (9 ^ pc u), S) := by
  have := e_ways h hu dk_FU 0 1 (by omega) (by have := dk_FU_ge; omega)
  rw [nI_0, Nat.sub_zero, w_w_tab ⟨u, hu⟩] at this
  exact this
theorem e_mways {x4 : Int32} {S : dk_S} {u : Nat} (hu : u < 16) (kx : (Int32 × dk_S) → Option (Int32 × dk_S)) : ∀ (m c : Nat), c ≤ pc u → pc u - c < m → fX9_would_L52 x4 (nI u) kx m (nI (9 ^ c)) (nI c) S = kx (nI (9 ^ pc u), S) := by
  have hp := pc_le (u := u)
  intro m
  induction m with
  | zero => intro c h1 h2; omega
  | succ m ih =>
    intro c h1 h2
    rw [fX9_would_L52, q_bits hu, some_bind']
    by_cases h : c = pc u
    · rw [if_pos (by rw [h]; exact Int32.le_refl _), h]
    · rw [if_neg (fun g => by have := (nI_leI (by omega) (by omega)).mp g; omega), dk_lt_eq, show (9 : Int32) = nI 9 from rfl, nI_mul, nI_1, ← Nat.pow_succ, ih (c + 1) (by omega) (by omega)]
/-- told in one way -/
def d_t (u : Nat) : Nat → Nat → (Nat → Int32) → (Nat → Int32)
  | 0, _, z => z
  | i + 1, rest, z => if u / 2 ^ i % 2 = 0 then d_t u i rest z else d_t u i (rest / 9) (upd z i (nI (1 + rest % 9)))
theorem d_t_cg (u : Nat) : ∀ (i rest : Nat) (z z' : Nat → Int32), (∀ j, j < 6 → (i ≤ j ∨ u / 2 ^ j % 2 = 0) → z j = z' j) → ∀ j, j < 6 → d_t u i rest z j = d_t u i rest z' j := by
  intro i
  induction i with
  | zero => intro rest z z' h j hj; exact h j hj (Or.inl (by omega))
  | succ i ih =>
    intro rest z z' h j hj
    rw [d_t, d_t]
    by_cases h0 : u / 2 ^ i % 2 = 0
    · rw [if_pos h0, if_pos h0]
      refine ih rest z z' (fun j hj hc => h j hj ?_) j hj
      rcases hc with hc | hc
      · by_cases hji : j = i
        · subst hji; exact Or.inr h0
        · exact Or.inl (by omega)
      · exact Or.inr hc
    · rw [if_neg h0, if_neg h0]
      refine ih (rest / 9) _ _ (fun j hj hc => ?_) j hj
      rw [upd_at, upd_at]
      by_cases hji : j = i
      · rw [if_pos hji, if_pos hji]
      · rw [if_neg hji, if_neg hji]
        refine h j hj ?_
        rcases hc with hc | hc
        · exact Or.inl (by omega)
        · exact Or.inr hc
theorem d_t_told (u : Nat) : ∀ (i rest : Nat) (z : Nat → Int32) (j : Nat), (i ≤ j ∨ u / 2 ^ j % 2 = 0) → d_t u i rest z j = z j := by
  intro i
  induction i with
  | zero => intro rest z j h; rfl
  | succ i ih =>
    intro rest z j h
    rw [d_t]
    by_cases h0 : u / 2 ^ i % 2 = 0
    · rw [if_pos h0]
      exact ih rest z j (h.imp (fun q => by omega) id)
    · rw [if_neg h0, ih (rest / 9) _ j (h.imp (fun q => by omega) id), upd_ne]
      rcases h with h | h
      · omega
      · intro q; subst q; exact h0 h
theorem d_t_sz (u : Nat) : ∀ (i rest : Nat) (z : Nat → Int32), i_sz z → i_sz (d_t u i rest z) := by
  intro i
  induction i with
  | zero => intro rest z h; exact h
  | succ i ih =>
    intro rest z h
    rw [d_t]
    by_cases h0 : u / 2 ^ i % 2 = 0
    · rw [if_pos h0]; exact ih rest z h
    · rw [if_neg h0]; exact ih _ _ (h.set ⟨by omega, by have := Nat.mod_lt rest (show 9 > 0 by omega); omega⟩)
theorem e_ctu {rb : Int32} {u : Nat} (hu : u < 16) : ∀ (m i rest : Nat) (z : Nat → Int32) (S : dk_S), i ≤ 4 → i < m → rest < 2 ^ 30 → c_T z rb S → S.1 18 1 = nI u → ∃ T, fX1_tellUntold_L4 18 m (nI rest) (nI i + (-1)) S = some T ∧ c_T (d_t u i rest z) rb T ∧ c_sm S T ∧ T.2 = S.2 ∧ T.1 18 = S.1 18 := by
  intro m
  induction m with
  | zero => intro i rest z S h1 h2; omega
  | succ m ih =>
    intro i rest z S h1 h2 hre hT h18
    rw [fX1_tellUntold_L4]
    cases i with
    | zero =>
      rw [if_pos (by decide)]
      exact ⟨S, rfl, hT, c_sm.rf S, rfl, rfl⟩
    | succ i =>
      rw [pk_m1, if_neg (nI_pos (by omega)), q_unt h18 hu (by omega), some_bind', d_t]
      simp only [dk_lt_eq]
      by_cases h0 : u / 2 ^ i % 2 = 0
      · rw [if_pos h0, if_pos rfl, if_pos h0]
        exact ih i rest z S (by omega) (by omega) hre hT h18
      · have d1 : nI rest / 9 = nI (rest / 9) := pk_div (d := 9) (by omega) (by omega) (by omega)
        have d2 : nI rest - nI rest / 9 * 9 = nI (rest % 9) := pk_rem (d := 9) (by omega) (by omega) (by omega)
        rw [if_neg h0, if_neg (show ¬ (1 : Int32) = 0 by decide), if_neg h0, dI_in (by omega) (by omega), dk_gd_t, nI_clamp (by omega), d2, d1, show (1 : Int32) + nI (rest % 9) = nI (1 + rest % 9) by rw [show (1 : Int32) = nI 1 from rfl, nI_add]]
        have h9 : rest / 9 ≤ rest := Nat.div_le_self _ _
        obtain ⟨T, t1, t2, t3, t4, t5⟩ := ih i (rest / 9) _ (dk_si S 19 i (nI (1 + rest % 9))) (by omega) (by omega) (by omega) (hT.set i (nI (1 + rest % 9))) (by rw [dk_si_eq, dk_sr_ne _ _ (by omega)]; exact h18)
        exact ⟨T, t1, t2, (c_sm.si (by omega)).tr t3, t4, by rw [t5, dk_si_eq, dk_sr_ne _ _ (by omega)]⟩
theorem e_mtu {rb sl x4 x7 x8 x9 x10 : Int32} {u : Nat} (hu : u < 16) (kx : dk_S → Option (Int32 × dk_S)) : ∀ (m i rest : Nat) (z : Nat → Int32) (S : dk_S), i ≤ 4 → i < m → rest < 2 ^ 30 → m_T z rb sl 0 0 S → ∃ T, fX9_would_L99 x4 (nI u) x7 x8 x9 x10 kx m (nI rest) (nI i + (-1)) S = kx T ∧ m_T (d_t u i rest z) rb sl 0 0 T ∧ m_sm S T := by
  intro m
  induction m with
  | zero => intro i rest z S h1 h2; omega
  | succ m ih =>
    intro i rest z S h1 h2 hre hT
    rw [fX9_would_L99]
    cases i with
    | zero =>
      rw [if_pos (by decide)]
      exact ⟨S, rfl, hT, m_sm.rf S⟩
    | succ i =>
      rw [pk_m1, if_neg (nI_pos (by omega)), q_bit hu (by omega), d_t]
      simp only [dk_lt_eq]
      have h2 : u / 2 ^ i % 2 < 2 := Nat.mod_lt _ (by omega)
      by_cases h0 : u / 2 ^ i % 2 = 0
      · rw [h0, if_neg (show ¬ nI 0 = 1 by decide), if_pos rfl]
        exact ih i rest z S (by omega) (by omega) hre hT
      · have d1 : nI rest / 9 = nI (rest / 9) := pk_div (d := 9) (by omega) (by omega) (by omega)
        have d2 : nI rest - nI rest / 9 * 9 = nI (rest % 9) := pk_rem (d := 9) (by omega) (by omega) (by omega)
        rw [if_pos (show nI (u / 2 ^ i % 2) = 1 by rw [show u / 2 ^ i % 2 = 1 by omega]; rfl), if_neg h0, dI_in (by omega) (by omega), dk_gd_t, nI_clamp (by omega), d2, d1, show (1 : Int32) + nI (rest % 9) = nI (1 + rest % 9) by rw [show (1 : Int32) = nI 1 from rfl, nI_add]]
        have h9 : rest / 9 ≤ rest := Nat.div_le_self _ _
        obtain ⟨T, t1, t2, t3⟩ := ih i (rest / 9) _ (dk_si S 95 i (nI (1 + rest % 9))) (by omega) (by omega) (by omega) (hT.set i (nI (1 + rest % 9)))
        exact ⟨T, t1, t2, (m_sm.si (by omega)).tr t3⟩
def n_g (f : Nat → Bool) (h : Nat → Int32) : Nat → Nat → Int32
  | 0, _ => -9
  | k + 1, s => if f s = true then h s else n_g f h k (s + 1)
/-- a walker's number -/
def d_n4 (z : Nat → Int32) : Int32 := (((1000 * z 0) + (100 * z 1)) + (10 * z 2)) + z 3
theorem e_cwould {S0 : dk_S} {sz : Nat → Int32} {rb sl : Int32} {u W a : Nat} {B : Int} (hu : u < 16) (hW : W ≤ 1000) (hsz : i_sz sz) (hB2 : B ≤ 7000000000) (ha : a ≤ 99) : ∀ (m s : Nat) (z : Nat → Int32) (S : dk_S), s ≤ W → s < m → (∀ j, j < 6 → (4 ≤ j ∨ u / 2 ^ j % 2 = 0) → z j = sz j) → c_T z rb S → S.1 18 1 = nI u → c_sm S0 S → c_ok (B + 401 * ((W - s : Nat) : Int)) S →
    ∃ T, fX8_would_L67 sl (nI a) m (nI (n_c (fun t => g_w (c_P (d_t u 4 t sz) sl rb) a) (W - s) s)) (n_g (fun t => g_w (c_P (d_t u 4 t sz) sl rb) a) (fun t => d_n4 (d_t u 4 t sz)) (W - s) s) (nI s + (-1)) S = some (nI (n_c (fun t => g_w (c_P (d_t u 4 t sz) sl rb) a) W 0), dk_sr T 0 (upd (T.1 0) 12 (n_g (fun t => g_w (c_P (d_t u 4 t sz) sl rb) a) (fun t => d_n4 (d_t u 4 t sz)) W 0))) ∧ c_sm S0 T ∧ c_ok (B + 401 * (W : Int)) T := by
  intro m
  induction m with
  | zero => intro s z S h1 h2; omega
  | succ m ih =>
    intro s z S h1 h2 hz hT h18 hsm hok
    rw [fX8_would_L67]
    cases s with
    | zero =>
      rw [if_pos (by decide), q_tell, some_bind']
      exact ⟨S, rfl, hsm, hok.up (by omega)⟩
    | succ s =>
      rw [pk_m1, if_neg (nI_pos (by omega))]
      obtain ⟨A, a1, a2, a3, a4, a5⟩ := e_ctu (rb := rb) hu dk_FU 4 s z S (by omega) (by have := dk_FU_ge; omega) (by omega) hT h18
      have a1' : fX1_tellUntold 18 (nI s) S = some A := a1
      have a2' : c_T (d_t u 4 s sz) rb A := a2.cg (d_t_cg u 4 s z sz hz)
      have hs := d_t_sz u 4 s sz hsz
      obtain ⟨T, f1, f2, f3, f4, f5, -⟩ := q_well sl a2' (a_ok_sz hs).2 (hok.c (by rw [a4]) (by rw [a4])) (by omega) ha
      rw [a1', some_bind', f1, some_bind', dk_lt_eq]
      have hk : W - s = (W - (s + 1)) + 1 := by omega
      obtain ⟨T2, g1, g2, g3⟩ := ih s (d_t u 4 s sz) T (by omega) (by omega) (fun j hj hc => d_t_told u 4 s sz j hc) f2 (by rw [f5, a5]; exact h18) ((hsm.tr a3).tr f3) (f4.up (by omega))
      refine ⟨T2, ?_, g2, g3⟩
      rw [← g1, hk, n_c, n_g]
      dsimp only
      cases hb : g_w (c_P (d_t u 4 s sz) sl rb) a with
      | true =>
        have hnum : fX1_asNumber 18 T = some (d_n4 (d_t u 4 s sz), T) := by
          unfold fX1_asNumber d_n4
          rw [show (18 + 1 : Nat) = 19 from rfl, f2.1 0 (by omega), f2.1 1 (by omega), f2.1 2 (by omega), f2.1 3 (by omega)]
        rw [if_neg k_b_t, if_pos rfl, if_pos rfl, nI_1, hnum, some_bind', Nat.add_comm 1]
      | false =>
        rw [if_pos k_b_f, if_neg (show ¬ (false = true) by decide), if_neg (show ¬ (false = true) by decide), Nat.zero_add]
theorem e_mwould {S0 : dk_S} {sz : Nat → Int32} {rb sl : Int32} {u W a : Nat} (hu : u < 16) (hW : W ≤ 1000) (hsz : i_sz sz) (ha : a ≤ 99) : ∀ (m s c : Nat) (fi : Int32) (z : Nat → Int32) (S : dk_S), s ≤ W → W - s < m → c ≤ s → (c = 0 → fi = -9) → (∀ j, j < 6 → (4 ≤ j ∨ u / 2 ^ j % 2 = 0) → z j = sz j) → m_T z rb sl 0 0 S → m_sm S0 S →
    ∃ T, fX9_would_L85 (nI a) (nI u) (nI W) m (nI c) fi (nI s) S = some (nI (c + n_c (fun t => g_w (c_P (d_t u 4 t sz) sl rb) a) (W - s) s), dk_sr T 82 (upd (T.1 82) 2 (if c = 0 then n_g (fun t => g_w (c_P (d_t u 4 t sz) sl rb) a) (fun t => d_n4 (d_t u 4 t sz)) (W - s) s else fi))) ∧ m_sm S0 T := by
  intro m
  induction m with
  | zero => intro s c fi z S h1 h2; omega
  | succ m ih =>
    intro s c fi z S h1 h2 hc hfi hz hT hsm
    rw [fX9_would_L85]
    by_cases hs : s = W
    · subst hs
      rw [if_pos (Int32.le_refl _), q_tells, some_bind', Nat.sub_self]
      refine ⟨S, ?_, hsm⟩
      show _ = some (nI (c + 0), dk_sr S 82 (upd (S.1 82) 2 (if c = 0 then -9 else fi)))
      by_cases h0 : c = 0
      · rw [if_pos h0, hfi h0]; rfl
      · rw [if_neg h0]; rfl
    · rw [if_neg (fun g => by have := (nI_leI (by omega) (by omega)).mp g; omega)]
      obtain ⟨A, a1, a2, a3⟩ := e_mtu (rb := rb) (sl := sl) (x4 := nI a) (x7 := nI W) (x8 := nI c) (x9 := fi) (x10 := nI s) hu (fun t9 : dk_S => (fX9_walksWell (nI a) t9).bind (fun r10 => dk_lt (fun t11 : Int32 × Int32 × dk_S => (fX9_would_L85 (nI a) (nI u) (nI W) m t11.1 t11.2.1 (nI s + 1) t11.2.2 : Option (Int32 × dk_S))) (fun k12 => if r10.1 = 0 then k12 (nI c, fi, r10.2) else dk_lt (if nI c = 0 then (((1000 * (r10.2.1 95 0)) + (100 * (r10.2.1 95 1))) + (10 * (r10.2.1 95 2))) + (r10.2.1 95 3) else fi) (fun y14 : Int32 => k12 (nI c + 1, y14, r10.2))))) dk_FU 4 s z S (by omega) (by have := dk_FU_ge; omega) (by omega) hT
      have a1' : fX9_would_L99 (nI a) (nI u) (nI W) (nI c) fi (nI s) _ dk_FU (nI s) 3 S = _ := a1
      rw [a1']
      have a2' : m_T (d_t u 4 s sz) rb sl 0 0 A := a2.cg (d_t_cg u 4 s z sz hz)
      have hok := a_ok_sz (d_t_sz u 4 s sz hsz)
      obtain ⟨T, f1, f2, f3, -⟩ := q_mwell a2' hok ha
      rw [← a_P_c hok] at f1
      rw [f1, some_bind']
      simp only [dk_lt_eq, nI_1]
      have hk : W - s = (W - (s + 1)) + 1 := by omega
      rw [hk, n_c, n_g, f2.1 0 (by omega), f2.1 1 (by omega), f2.1 2 (by omega), f2.1 3 (by omega), show (((1000 * d_t u 4 s sz 0) + (100 * d_t u 4 s sz 1)) + (10 * d_t u 4 s sz 2)) + d_t u 4 s sz 3 = d_n4 (d_t u 4 s sz) from rfl]
      have hz2 : ∀ j, j < 6 → (4 ≤ j ∨ u / 2 ^ j % 2 = 0) → d_t u 4 s sz j = sz j := fun j hj hc => d_t_told u 4 s sz j hc
      cases hb : g_w (c_P (d_t u 4 s sz) sl rb) a with
      | true =>
        obtain ⟨T2, g1, g2⟩ := ih (s + 1) (c + 1) (if nI c = 0 then d_n4 (d_t u 4 s sz) else fi) (d_t u 4 s sz) T (by omega) (by omega) (by omega) (fun h => by omega) hz2 f2 ((hsm.tr a3).tr f3)
        refine ⟨T2, ?_, g2⟩
        have hcc : (if nI c = 0 then d_n4 (d_t u 4 s sz) else fi) = (if c = 0 then d_n4 (d_t u 4 s sz) else fi) := by
          by_cases h0 : c = 0
          · rw [if_pos h0, if_pos (by rw [h0]; rfl)]
          · rw [if_neg h0, if_neg (nI_ne0 (by omega) (by omega))]
        rw [if_neg k_b_t, g1, if_pos rfl, if_pos rfl, if_neg (by omega), Nat.add_assoc, hcc]
      | false =>
        obtain ⟨T2, g1, g2⟩ := ih (s + 1) c fi (d_t u 4 s sz) T (by omega) (by omega) (by omega) hfi hz2 f2 ((hsm.tr a3).tr f3)
        refine ⟨T2, ?_, g2⟩
        rw [if_pos k_b_f, g1, if_neg (show ¬ (false = true) by decide), if_neg (show ¬ (false = true) by decide), Nat.zero_add]
theorem pr_would (a1 : Int32) (a2 : Int32) (a3 : Int32) (a4 : Int32) {n : Nat} {S : dk_S} (hn : n < 512) (hI : dk_I n S) : ∃ (r : Int32) (S1 S2 : dk_S), fX8_would a1 a2 a3 a4 S = some (r, S1) ∧ fX9_would a1 a2 a3 a4 S1 = some (r, S2) ∧ dk_I (n + 1) S2 := by
  unfold fX8_would fX9_would
  by_cases hg : h_g a1 a2 a3 a4
  · rw [q_nG_t hg, some_bind', if_pos rfl]
    obtain ⟨k, l, t, a, hk, hl, ht, ha, rfl, rfl, rfl, rfl⟩ := h_g_of hg
    rcases h_two hI hk hl with ⟨S1, sz, rb, e1, e2, e3, e4, e5, -, -, e7, e8⟩ | ⟨e1, e2⟩
    · rw [e1, some_bind', if_neg (show ¬ (1 : Int32) = 0 by decide), dI_in hk (by omega), dk_gd_t, nI_clamp (by omega)]
      obtain ⟨w1, w2, w3, w4, ⟨u, hu, w5⟩, w6⟩ := hI.2.1.2.2.1 k hk
      have hS1u : S1.1 (51 + 2 * k) 1 = nI u := by rw [e3.1 _ (by omega)]; exact w5
      have e76 : (7 : Int32) * nI k + 6 = nI (7 * k + 6) := by rw [show (7 : Int32) = nI 7 from rfl, nI_mul, show (6 : Int32) = nI 6 from rfl, nI_add]
      have hp := pc_le (u := u)
      dsimp only
      rw [hS1u, q_bc hu, some_bind']
      dsimp only
      have hMS : ∀ (G S2 : dk_S), (∀ q, 82 < q → G.1 q = S.1 q) → m_sm G S2 → S2.1 90 (7 * k + 6) = nI u := fun G S2 hG hm => by rw [hm.1 90 (by omega) (by omega), hG 90 (by omega), ← w4]; exact w5
      by_cases h3 : pc u ≤ 3
      · have hW : 9 ^ pc u ≤ 9 ^ 3 := Nat.pow_le_pow_right (by omega) h3
        have hW1 : 1 ≤ 9 ^ pc u := Nat.one_le_pow _ _ (by omega)
        have hW2 : (9 : Nat) ^ 3 = 729 := by decide
        have h3' : nI (pc u) ≤ 3 := (nI_leI (b := 3) (by omega) (by omega)).mpr h3
        rw [if_pos h3', q_ways hS1u hu, some_bind', dk_lt_eq]
        obtain ⟨W, hWW⟩ : ∃ W, W = 9 ^ pc u := ⟨_, rfl⟩
        rw [← hWW] at hW hW1 ⊢
        obtain ⟨T, f1, f2, f3⟩ := e_cwould (S0 := S) (sz := sz) (rb := rb) (sl := nI t) (u := u) (W := W) (a := a) (B := 10000000 * (n : Int)) hu (by omega) e5 (by omega) ha dk_FU W sz S1 (Nat.le_refl _) (by have := dk_FU_ge; omega) (fun _ _ _ => rfl) e2 (by rw [e7]; exact w5) e3 (((c_ok.of hI.2.2).c (by rw [e4]) (by rw [e4])).up (by omega))
        rw [Nat.sub_self] at f1
        rw [Int32.sub_eq_add_neg]
        have f1' : fX8_would_L67 (nI t) (nI a) dk_FU 0 (-9) (nI W + (-1)) S1 = _ := f1
        rw [f1']
        obtain ⟨S2, g1, g2, g3⟩ := e8 (dk_sr T 0 (upd (T.1 0) 12 (n_g (fun x => g_w (c_P (d_t u 4 x sz) (nI t) rb) a) (fun x => d_n4 (d_t u 4 x sz)) W 0))) 1 t a (by decide) ht ha (m_hi f2)
        obtain ⟨M, m1, m2⟩ := e_mwould (S0 := dk_sr T 0 (upd (T.1 0) 12 (n_g (fun x => g_w (c_P (d_t u 4 x sz) (nI t) rb) a) (fun x => d_n4 (d_t u 4 x sz)) W 0))) (sz := sz) (rb := rb) (sl := nI t) (u := u) (W := W) (a := a) hu (by omega) e5 ha dk_FU 0 0 (-9) sz S2 (by omega) (by have := dk_FU_ge; omega) (by omega) (fun _ => rfl) (fun _ _ _ => rfl) g2 g3
        refine ⟨_, _, _, rfl, ?_, an_tell hI f2 f3 (by omega) m2⟩
        rw [g1, some_bind', if_pos (show (0 : Int32) ≤ 0 by decide), e76, dI_in (by omega) (by omega), dk_gd_t, nI_clamp (by omega), dk_lt_eq]
        dsimp only
        rw [hMS _ S2 (m_hi f2) g3, q_bits hu, some_bind', if_pos h3']
        have hq := e_mways (x4 := nI a) (S := S2) hu (fun t6 : Int32 × dk_S => fX9_would_L85 (nI a) (nI u) t6.1 dk_FU 0 (-9) 0 t6.2) dk_FU 0 (by omega) (by have := dk_FU_ge; omega)
        have hq' : fX9_would_L52 (nI a) (nI u) _ dk_FU 1 0 S2 = _ := hq
        rw [hq', ← hWW]
        dsimp only
        rw [Nat.zero_add, if_pos rfl, Nat.sub_zero, nI_0] at m1
        exact m1
      · have h3' : ¬ nI (pc u) ≤ 3 := fun q => h3 ((nI_leI (b := 3) (by omega) (by omega)).mp q)
        rw [if_neg h3']
        have hG : ∀ q, 82 < q → S1.1 q = S.1 q := fun q hq => e3.1 q (by omega)
        obtain ⟨S2, g1, g2, g3⟩ := e8 S1 1 t a (by decide) ht ha hG
        refine ⟨_, _, _, rfl, ?_, an_none hI e3 ((c_ok.of hI.2.2).c (by rw [e4]) (by rw [e4])) (by omega) g3⟩
        rw [g1, some_bind', if_pos (show (0 : Int32) ≤ 0 by decide), e76, dI_in (by omega) (by omega), dk_gd_t, nI_clamp (by omega), dk_lt_eq]
        dsimp only
        rw [hMS _ S2 hG g3, q_bits hu, some_bind', if_neg h3']
    · rw [e1, some_bind', if_pos rfl, q_found1, some_bind']
      refine ⟨_, _, _, rfl, ?_, dk_I_fn (f := 1) (by omega) hI⟩
      rw [e2 1 t a (by decide) ht ha, some_bind', if_neg n3neg]
  · rw [q_nG_f hg, some_bind', if_neg (show ¬ (1 : Int32) = 0 by decide)]
    refine ⟨_, _, _, rfl, ?_, dk_I_up hI⟩
    rw [q_need_bad (Or.inr hg), some_bind', if_neg n1neg]
