/-! count -/
def s_n (g : Nat → Int32) : Nat → Nat → Int32 → Int32
  | 0, _, a => a
  | c + 1, i, a => s_n g c (i + 1) (a + g i)
theorem s_n_congr {f g : Nat → Int32} : ∀ (c i : Nat) (a : Int32), (∀ j, i ≤ j → j < i + c → f j = g j) → s_n f c i a = s_n g c i a := by
  intro c
  induction c with
  | zero => intro i a h; rfl
  | succ c ih =>
    intro i a h
    rw [s_n, s_n, h i (by omega) (by omega), ih (i + 1) _ (fun j h1 h2 => h j (by omega) (by omega))]
theorem s_n_0 : ∀ (c i : Nat) (a : Int32), s_n (fun _ => 0) c i a = a := by
  intro c
  induction c with
  | zero => intro i a; rfl
  | succ c ih => intro i a; rw [s_n, Int32.add_zero, ih]
def c_dk (x : Int32) (S : dk_S) (i : Nat) : Int32 := if S.1 (51 + 2 * i) 2 = 0 then 0 else if x = 0 then 1 else if S.1 (51 + 2 * i) 1 = 0 then 0 else 1
theorem e_cdk (x : Int32) (S : dk_S) : ∀ (m i : Nat) (a : Int32), i ≤ 4 → 4 - i < m → fX8_countDucks_L4 x m a (nI i) S = some (s_n (c_dk x S) (4 - i) i a, S) := by
  intro m
  induction m with
  | zero => intro i a h1 h2; omega
  | succ m ih =>
    intro i a h1 h2
    rw [fX8_countDucks_L4]
    by_cases h : i = 4
    · subst h
      rw [if_pos (show (4 : Int32) ≤ nI 4 from by decide)]
      rfl
    · rw [if_neg (show ¬ (4 : Int32) ≤ nI i from fun q => by have := (nI_leI (a := 4) (by omega) (by omega)).mp q; omega), dI_in (by omega) (by omega), dk_gd_t, nI_clamp (by omega), show 4 - i = (4 - (i + 1)) + 1 by omega, s_n]
      simp only [dk_lt_eq, dk_gd_t, nI_1]
      rw [ih (i + 1) _ (by omega) (by omega), ih (i + 1) _ (by omega) (by omega)]
      unfold c_dk
      by_cases g1 : S.1 (51 + 2 * i) 2 = 0
      · rw [if_pos g1, if_pos g1, Int32.add_zero]
      · rw [if_neg g1, if_neg g1]
        by_cases g2 : x = 0
        · rw [if_pos g2, if_pos g2]
        · rw [if_neg g2, if_neg g2]
          by_cases g3 : S.1 (51 + 2 * i) 1 = 0
          · rw [if_pos g3, if_pos g3, Int32.add_zero]
          · rw [if_neg g3, if_neg g3]
theorem e_cpl (S : dk_S) : ∀ (m i : Nat) (a : Int32), i ≤ 4 → 4 - i < m → fX8_countPlanks_L4 m a (nI i) S = some (s_n (fun i => if S.1 (59 + 2 * i) 2 = 0 then 0 else 1) (4 - i) i a, S) := by
  intro m
  induction m with
  | zero => intro i a h1 h2; omega
  | succ m ih =>
    intro i a h1 h2
    rw [fX8_countPlanks_L4]
    by_cases h : i = 4
    · subst h
      rw [if_pos (show (4 : Int32) ≤ nI 4 from by decide)]
      rfl
    · rw [if_neg (show ¬ (4 : Int32) ≤ nI i from fun q => by have := (nI_leI (a := 4) (by omega) (by omega)).mp q; omega), dI_in (by omega) (by omega), dk_gd_t, nI_clamp (by omega), show 4 - i = (4 - (i + 1)) + 1 by omega, s_n]
      simp only [dk_lt_eq, nI_1]
      rw [ih (i + 1) _ (by omega) (by omega)]
theorem e_ckp (S : dk_S) : ∀ (m i : Nat) (a : Int32), i ≤ 3 → 3 - i < m → fX8_countKept_L4 m a (nI i) S = some (s_n (fun i => if S.1 (67 + 5 * i) 2 = 0 then 0 else 1) (3 - i) i a, S) := by
  intro m
  induction m with
  | zero => intro i a h1 h2; omega
  | succ m ih =>
    intro i a h1 h2
    rw [fX8_countKept_L4]
    by_cases h : i = 3
    · subst h
      rw [if_pos (show (3 : Int32) ≤ nI 3 from by decide)]
      rfl
    · rw [if_neg (show ¬ (3 : Int32) ≤ nI i from fun q => by have := (nI_leI (a := 3) (by omega) (by omega)).mp q; omega), dI_in (by omega) (by omega), dk_gd_t, nI_clamp (by omega), show 3 - i = (3 - (i + 1)) + 1 by omega, s_n]
      simp only [dk_lt_eq, nI_1]
      rw [ih (i + 1) _ (by omega) (by omega)]
theorem q_miss5 (k : Nat) (S : dk_S) : fX5_isMissing k S = some (if S.1 k 1 < 0 then 1 else 0, S) := by
  unfold fX5_isMissing
  by_cases h : S.1 k 1 < 0
  · rw [if_pos h, if_neg (i32_nle.mpr h)]
  · rw [if_neg h, if_pos (i32_nlt.mp h)]
theorem q_miss6 (k : Nat) (S : dk_S) : fX6_isMissing k S = some (if S.1 k 1 < 0 then 1 else 0, S) := by
  unfold fX6_isMissing
  by_cases h : S.1 k 1 < 0
  · rw [if_pos h, if_neg (i32_nle.mpr h)]
  · rw [if_neg h, if_pos (i32_nlt.mp h)]
theorem e_crw (S : dk_S) : ∀ (m i : Nat) (a : Int32), i ≤ 6 → 6 - i < m → fX8_countRows_L4 m a (nI i) S = some (s_n (fun i => if S.1 (31 + 2 * i) 1 < 0 then 0 else 1) (6 - i) i a, S) := by
  intro m
  induction m with
  | zero => intro i a h1 h2; omega
  | succ m ih =>
    intro i a h1 h2
    rw [fX8_countRows_L4]
    by_cases h : i = 6
    · subst h
      rw [if_pos (show (6 : Int32) ≤ nI 6 from by decide)]
      rfl
    · rw [if_neg (show ¬ (6 : Int32) ≤ nI i from fun q => by have := (nI_leI (a := 6) (by omega) (by omega)).mp q; omega), dI_in (by omega) (by omega), dk_gd_t, nI_clamp (by omega), show 6 - i = (6 - (i + 1)) + 1 by omega, s_n, q_miss5, some_bind']
      simp only [dk_lt_eq, nI_1]
      rw [ih (i + 1) _ (by omega) (by omega)]
      by_cases g : S.1 (31 + 2 * i) 1 < 0
      · rw [if_pos g, if_pos g, if_neg (show ¬ (1 : Int32) = 0 by decide)]
      · rw [if_neg g, if_neg g, if_pos rfl]
theorem e_csc (S : dk_S) : ∀ (m i : Nat) (a : Int32), i ≤ 4 → 4 - i < m → fX8_countScripts_L4 m a (nI i) S = some (s_n (fun i => if S.1 (43 + 2 * i) 1 < 0 then 0 else 1) (4 - i) i a, S) := by
  intro m
  induction m with
  | zero => intro i a h1 h2; omega
  | succ m ih =>
    intro i a h1 h2
    rw [fX8_countScripts_L4]
    by_cases h : i = 4
    · subst h
      rw [if_pos (show (4 : Int32) ≤ nI 4 from by decide)]
      rfl
    · rw [if_neg (show ¬ (4 : Int32) ≤ nI i from fun q => by have := (nI_leI (a := 4) (by omega) (by omega)).mp q; omega), dI_in (by omega) (by omega), dk_gd_t, nI_clamp (by omega), show 4 - i = (4 - (i + 1)) + 1 by omega, s_n, q_miss6, some_bind']
      simp only [dk_lt_eq, nI_1]
      rw [ih (i + 1) _ (by omega) (by omega)]
      by_cases g : S.1 (43 + 2 * i) 1 < 0
      · rw [if_pos g, if_pos g, if_neg (show ¬ (1 : Int32) = 0 by decide)]
      · rw [if_neg g, if_neg g, if_pos rfl]
/-- what the model counts at a place -/
def m_ct (x : Int32) (S : dk_S) (i : Nat) : Int32 := if x = 0 then (if S.1 89 i = 0 then 0 else 1) else if x = 1 then (if S.1 91 i = 0 then 0 else 1) else if x = 2 then (if S.1 89 i = 0 then 0 else if 0 < S.1 90 (7 * i + 6) then 1 else 0) else if x = 4 then (if i = 0 then 0 else if S.1 97 i = 0 then 0 else 1) else if x = 6 then (if S.1 87 i < 0 then 0 else 1) else 0
def k_06 (x : Int32) : Prop := x = 0 ∨ x = 1 ∨ x = 2 ∨ x = 3 ∨ x = 4 ∨ x = 5 ∨ x = 6
theorem ctd_0 {x : Int32} {S : dk_S} {i : Nat} (h : m_ct x S i = 0) (a : Int32) : a + m_ct x S i = a + 0 := by rw [h]
theorem e_ctd {x : Int32} (hx : k_06 x) (kx : (Int32 × dk_S) → Option (Int32 × dk_S)) (S : dk_S) : ∀ (m i : Nat) (a : Int32), i ≤ 4 → 4 - i < m → fX9_counted_L4 x kx m a (nI i) S = kx (s_n (m_ct x S) (4 - i) i a, S) := by
  intro m
  induction m with
  | zero => intro i a h1 h2; omega
  | succ m ih =>
    intro i a h1 h2
    rw [fX9_counted_L4]
    by_cases h : i = 4
    · subst h
      rw [if_pos (show (4 : Int32) ≤ nI 4 from by decide)]
      rfl
    · have e7 : (7 : Int32) * nI i + 6 = nI (7 * i + 6) := by rw [show (7 : Int32) = nI 7 from rfl, nI_mul, show (6 : Int32) = nI 6 from rfl, nI_add]
      rw [if_neg (show ¬ (4 : Int32) ≤ nI i from fun q => by have := (nI_leI (a := 4) (by omega) (by omega)).mp q; omega), show 4 - i = (4 - (i + 1)) + 1 by omega, s_n, ← ih (i + 1) _ (by omega) (by omega)]
      simp only [dk_lt_eq, e7, dI_in (show i < 4 by omega) (show (4 : Nat) < 2 ^ 31 by omega), dI_in (show 7 * i + 6 < 28 by omega) (show (28 : Nat) < 2 ^ 31 by omega), dk_gd_t, nI_clamp (show i < 2 ^ 31 by omega), nI_clamp (show 7 * i + 6 < 2 ^ 31 by omega), nI_1]
      unfold m_ct
      rcases hx with rfl | rfl | rfl | rfl | rfl | rfl | rfl
      · by_cases g : S.1 89 i = 0
        · simp [g]
        · simp [g]
      · by_cases g : S.1 91 i = 0
        · rw [if_pos g]; simp [g]
        · rw [if_neg g]; simp [g]
      · by_cases g : S.1 89 i = 0
        · simp [g]
        · by_cases g2 : 0 < S.1 90 (7 * i + 6)
          · simp [g, g2]
          · simp [g, g2]
      · simp
      · by_cases g0 : i = 0
        · subst g0
          simp [nI_0]
        · have gi : ¬ nI i ≤ (0 : Int32) := nI_nle (by omega) (by omega)
          by_cases g : S.1 97 i = 0
          · simp [g, g0, gi]
          · simp [g, g0, gi]
      · simp
      · by_cases g : S.1 87 i < 0
        · simp [g]
        · simp [g]
theorem e_ctd2 {x : Int32} (kx : (Int32 × dk_S) → Option (Int32 × dk_S)) (S : dk_S) : ∀ (m i : Nat) (a : Int32), i ≤ 6 → 6 - i < m → fX9_counted_L114 x kx m a (nI i) S = kx (s_n (fun i => if x = 5 then (if S.1 84 i < 0 then 0 else 1) else 0) (6 - i) i a, S) := by
  intro m
  induction m with
  | zero => intro i a h1 h2; omega
  | succ m ih =>
    intro i a h1 h2
    rw [fX9_counted_L114]
    by_cases h : i = 6
    · subst h
      rw [if_pos (show (6 : Int32) ≤ nI 6 from by decide)]
      rfl
    · rw [if_neg (show ¬ (6 : Int32) ≤ nI i from fun q => by have := (nI_leI (a := 6) (by omega) (by omega)).mp q; omega), show 6 - i = (6 - (i + 1)) + 1 by omega, s_n, ← ih (i + 1) _ (by omega) (by omega)]
      simp only [dk_lt_eq, dI_in (show i < 6 by omega) (show (6 : Nat) < 2 ^ 31 by omega), dk_gd_t, nI_clamp (show i < 2 ^ 31 by omega), nI_1]
      by_cases g5 : x = 5
      · rw [if_pos g5, if_pos g5]
        by_cases g : S.1 84 i < 0
        · rw [if_pos g, if_pos g]
        · rw [if_neg g, if_neg g]
      · rw [if_neg g5, if_neg g5]
def m_cd (x : Int32) (S : dk_S) : Int32 := if x = 3 then (if S.1 97 0 = 0 then 0 else S.1 98 9) else if x = 5 then s_n (fun i => if S.1 84 i < 0 then 0 else 1) 6 0 0 else s_n (m_ct x S) 4 0 0
theorem q_counted {x : Int32} (hx : k_06 x) (S : dk_S) : fX9_counted x S = some (m_cd x S, S) := by
  unfold fX9_counted
  have h1 := e_ctd hx (fun t1 : Int32 × dk_S => fX9_counted_L114 x (fun t2 : Int32 × dk_S => if x = 3 then if (t2.2.1 97 0) = 0 then some (0, t2.2) else some (t2.2.1 98 9, t2.2) else some (t2.1, t2.2)) dk_FU t1.1 0 t1.2) S dk_FU 0 0 (by omega) (by have := dk_FU_ge; omega)
  rw [nI_0] at h1
  rw [h1]
  have h2 := e_ctd2 (x := x) (fun t2 : Int32 × dk_S => if x = 3 then if (t2.2.1 97 0) = 0 then some (0, t2.2) else some (t2.2.1 98 9, t2.2) else some (t2.1, t2.2)) S dk_FU 0 (s_n (m_ct x S) (4 - 0) 0 0) (by omega) (by have := dk_FU_ge; omega)
  rw [nI_0] at h2
  dsimp only
  rw [h2]
  dsimp only
  unfold m_cd
  by_cases g3 : x = 3
  · rw [if_pos g3, if_pos g3]
    by_cases g : S.1 97 0 = 0
    · rw [if_pos g, if_pos g]
    · rw [if_neg g, if_neg g]
  · rw [if_neg g3, if_neg g3]
    by_cases g5 : x = 5
    · subst g5
      simp only [if_true]
      have : s_n (m_ct 5 S) (4 - 0) 0 0 = 0 := by
        rw [s_n_congr (g := fun _ => 0) _ _ _ (fun j _ _ => by unfold m_ct; simp), s_n_0]
      rw [this]
    · rw [if_neg g5]
      simp only [if_neg g5, s_n_0]
theorem q_count {S : dk_S} {x : Int32} (hx : k_06 x) (hX : i_X S) : fX8_countOf x S = some (m_cd x S, S) := by
  obtain ⟨hR, hT, hW, hB, hK⟩ := hX
  have hF := dk_FU_ge
  unfold fX8_countOf m_cd
  rcases hx with rfl | rfl | rfl | rfl | rfl | rfl | rfl
  · rw [if_pos rfl, if_neg (by decide), if_neg (by decide)]
    have h := e_cdk 0 S dk_FU 0 0 (by omega) (by omega)
    rw [nI_0] at h
    unfold fX8_countDucks
    rw [h, some_bind']
    rw [s_n_congr (g := m_ct 0 S) _ _ _ (fun j h1 h2 => by
      unfold c_dk m_ct
      rw [(hW j (by omega)).1]; simp)]
  · rw [if_neg (by decide), if_pos rfl, if_neg (by decide), if_neg (by decide)]
    have h := e_cpl S dk_FU 0 0 (by omega) (by omega)
    rw [nI_0] at h
    unfold fX8_countPlanks
    rw [h, some_bind']
    rw [s_n_congr (g := m_ct 1 S) _ _ _ (fun j h1 h2 => by
      unfold m_ct
      rw [(hB j (by omega)).1]; simp)]
  · rw [if_neg (by decide), if_neg (by decide), if_pos rfl, if_neg (by decide), if_neg (by decide)]
    have h := e_cdk 1 S dk_FU 0 0 (by omega) (by omega)
    rw [nI_0] at h
    unfold fX8_countDucks
    rw [h, some_bind']
    rw [s_n_congr (g := m_ct 2 S) _ _ _ (fun j h1 h2 => by
      obtain ⟨w1, w2, w3, w4, ⟨u, hu, w5⟩, w6⟩ := hW j (by omega)
      unfold c_dk m_ct
      rw [w1, ← w4, w5]
      by_cases g : S.1 89 j = 0
      · simp [g]
      · by_cases gu : u = 0
        · subst gu; simp [g, nI_0]
        · have g1 : ¬ nI u = 0 := nI_ne0 (by omega) (by omega)
          have g2 : (0 : Int32) < nI u := i32_nle.mp (nI_nle (by omega) (by omega))
          simp [g, g1, g2])]
  · rw [if_neg (by decide), if_neg (by decide), if_neg (by decide), if_pos rfl, if_pos rfl, hK.1.1]
    by_cases g : S.1 97 0 = 0
    · rw [if_pos g, if_pos g]
    · rw [if_neg g, if_neg g]
      rcases hK.1.2.1 with g0 | g1
      · exact absurd g0 g
      · have : S.1 5 6 = S.1 98 9 := (hK.1.2.2 g1).2.1 3 (by omega)
        rw [this]
  · rw [if_neg (by decide), if_neg (by decide), if_neg (by decide), if_neg (by decide), if_pos rfl, if_neg (by decide), if_neg (by decide)]
    have h := e_ckp S dk_FU 0 0 (by omega) (by omega)
    rw [nI_0] at h
    unfold fX8_countKept
    rw [h, some_bind']
    have k0 : m_ct 4 S 0 = 0 := by unfold m_ct; simp
    have k1 : ∀ j, j < 3 → m_ct 4 S (j + 1) = if S.1 (67 + 5 * j) 2 = 0 then 0 else 1 := fun j hj => by
      rw [(hK.2 j hj).1]
      unfold m_ct
      simp
    show some (((0 + (if S.1 (67 + 5 * 0) 2 = 0 then 0 else 1)) + (if S.1 (67 + 5 * 1) 2 = 0 then 0 else 1)) + (if S.1 (67 + 5 * 2) 2 = 0 then 0 else 1), S) = some ((((0 + m_ct 4 S 0) + m_ct 4 S (0 + 1)) + m_ct 4 S (1 + 1)) + m_ct 4 S (2 + 1), S)
    rw [k0, k1 0 (by omega), k1 1 (by omega), k1 2 (by omega), Int32.add_zero]
  · rw [if_neg (by decide), if_neg (by decide), if_neg (by decide), if_neg (by decide), if_neg (by decide), if_pos rfl, if_neg (by decide), if_pos rfl]
    have h := e_crw S dk_FU 0 0 (by omega) (by omega)
    rw [nI_0] at h
    unfold fX8_countRows
    rw [h, some_bind']
    rw [s_n_congr (g := fun i => if S.1 84 i < 0 then 0 else 1) _ _ _ (fun j h1 h2 => by
      rw [(hR j (by omega)).1])]
  · rw [if_neg (by decide), if_neg (by decide), if_neg (by decide), if_neg (by decide), if_neg (by decide), if_neg (by decide), if_neg (by decide), if_neg (by decide)]
    have h := e_csc S dk_FU 0 0 (by omega) (by omega)
    rw [nI_0] at h
    unfold fX8_countScripts
    rw [h, some_bind']
    rw [s_n_congr (g := m_ct 6 S) _ _ _ (fun j h1 h2 => by
      unfold m_ct
      rw [(hT j (by omega)).1]; simp)]
theorem k_06_of {x : Int32} (h : 0 ≤ x ∧ x ≤ 6) : k_06 x := by
  obtain ⟨j, hj, rfl⟩ := dI_of (n := 6) (by omega) h.1 h.2
  unfold k_06
  rcases (show j = 0 ∨ j = 1 ∨ j = 2 ∨ j = 3 ∨ j = 4 ∨ j = 5 ∨ j = 6 by omega) with rfl | rfl | rfl | rfl | rfl | rfl | rfl <;> decide
theorem pr_count (a1 : Int32) {n : Nat} {S : dk_S} (hn : n < 512) (hI : dk_I n S) : ∃ (r : Int32) (S1 S2 : dk_S), fX8_count a1 S = some (r, S1) ∧ fX9_count a1 S1 = some (r, S2) ∧ dk_I (n + 1) S2 := by
  unfold fX8_count fX9_count
  simp only [q_isOutside, q_in, some_bind']
  by_cases h : 0 ≤ a1 ∧ a1 ≤ 6
  · simp only [if_pos h, if_true, i_10, if_false]
    rw [q_count (k_06_of h) hI.2.1, some_bind']
    exact ⟨_, _, _, rfl, by rw [q_counted (k_06_of h), some_bind'], dk_I_up hI⟩
  · simp only [if_neg h, i_10, if_false, if_true]
    exact ⟨_, _, _, rfl, rfl, dk_I_up hI⟩
