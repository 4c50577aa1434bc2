/-! go: strides of a course, one after another -/
abbrev w_Z : Type := Nat × Nat × Int32 × Int32 × Int32 × Int32 × Int32
def w_go (P : p_P) (bs : Nat → Int32) (s3 : Int32) : Nat → Nat → Nat → Int32 → Int32 → Int32 → Int32 → Int32 → w_Z
  | 0, t, st, p, f, i, lo, we => (t, st, p, f, i, lo, we)
  | k + 1, t, st, p, f, i, lo, we => if i = 0 then w_go P bs s3 k (t + 1) (st + 1) (p_S P (c_b bs st) p f).1 (p_S P (c_b bs st) p f).2.1 (p_S P (c_b bs st) p f).2.2 (lo + p * p / P.2.2.1) (we + (s3 + (p_S P (c_b bs st) p f).1 / 10)) else (t, st, p, f, i, lo, we)
theorem w_go_ok (P : p_P) (bs : Nat → Int32) (s3 : Int32) : ∀ (k t st : Nat) (p f i lo we : Int32), (f = 0 ∨ f = 1) → (i = 0 ∨ i = 1 ∨ i = 2) → t ≤ (w_go P bs s3 k t st p f i lo we).1 ∧ (w_go P bs s3 k t st p f i lo we).1 ≤ t + k ∧ (w_go P bs s3 k t st p f i lo we).2.1 + t = st + (w_go P bs s3 k t st p f i lo we).1 ∧ ((w_go P bs s3 k t st p f i lo we).2.2.2.1 = 0 ∨ (w_go P bs s3 k t st p f i lo we).2.2.2.1 = 1) ∧ ((w_go P bs s3 k t st p f i lo we).2.2.2.2.1 = 0 ∨ (w_go P bs s3 k t st p f i lo we).2.2.2.2.1 = 1 ∨ (w_go P bs s3 k t st p f i lo we).2.2.2.2.1 = 2) := by
  intro k
  induction k with
  | zero => intro t st p f i lo we hf hi; exact ⟨Nat.le_refl _, Nat.le_refl _, rfl, hf, hi⟩
  | succ k ih =>
    intro t st p f i lo we hf hi
    rw [w_go]
    by_cases h0 : i = 0
    · rw [if_pos h0]
      obtain ⟨g1, g2, g3, g4, g5⟩ := ih (t + 1) (st + 1) (p_S P (c_b bs st) p f).1 (p_S P (c_b bs st) p f).2.1 (p_S P (c_b bs st) p f).2.2 (lo + p * p / P.2.2.1) (we + (s3 + (p_S P (c_b bs st) p f).1 / 10)) (p_S_f _ _ _ _ hf) (p_S_i _ _ _ _)
      exact ⟨by omega, by omega, by omega, g4, g5⟩
    · rw [if_neg h0]
      exact ⟨Nat.le_refl _, by show t ≤ t + (k + 1); omega, rfl, hf, hi⟩
theorem e_cgo {k0 : Nat} {c : Nat → Int32} : ∀ (m k t st : Nat) (p f i lo we : Int32) (S : dk_S), k < m → t + k < 2 ^ 31 → st + k < 2 ^ 31 → S.1 k0 = c_row c p f (nI st) i lo we →
    fX0_strideOn_L2 k0 (nI (t + k)) m (nI t) S = some (nI (w_go (c_P (S.1 (k0 + 2)) (c 3) (S.1 (k0 + 3) 1)) (S.1 (k0 + 4)) (S.1 (k0 + 2) 3) k t st p f i lo we).1, dk_sr S k0 (c_row c (w_go (c_P (S.1 (k0 + 2)) (c 3) (S.1 (k0 + 3) 1)) (S.1 (k0 + 4)) (S.1 (k0 + 2) 3) k t st p f i lo we).2.2.1 (w_go (c_P (S.1 (k0 + 2)) (c 3) (S.1 (k0 + 3) 1)) (S.1 (k0 + 4)) (S.1 (k0 + 2) 3) k t st p f i lo we).2.2.2.1 (nI (w_go (c_P (S.1 (k0 + 2)) (c 3) (S.1 (k0 + 3) 1)) (S.1 (k0 + 4)) (S.1 (k0 + 2) 3) k t st p f i lo we).2.1) (w_go (c_P (S.1 (k0 + 2)) (c 3) (S.1 (k0 + 3) 1)) (S.1 (k0 + 4)) (S.1 (k0 + 2) 3) k t st p f i lo we).2.2.2.2.1 (w_go (c_P (S.1 (k0 + 2)) (c 3) (S.1 (k0 + 3) 1)) (S.1 (k0 + 4)) (S.1 (k0 + 2) 3) k t st p f i lo we).2.2.2.2.2.1 (w_go (c_P (S.1 (k0 + 2)) (c 3) (S.1 (k0 + 3) 1)) (S.1 (k0 + 4)) (S.1 (k0 + 2) 3) k t st p f i lo we).2.2.2.2.2.2)) := by
  intro m
  induction m with
  | zero => intro k t st p f i lo we S h1; omega
  | succ m ih =>
    intro k t st p f i lo we S h1 h2 h3 hr
    have hid : S = dk_sr S k0 (c_row c p f (nI st) i lo we) := by rw [← hr, dk_sr_id]
    rw [fX0_strideOn_L2]
    cases k with
    | zero =>
      rw [if_pos (show nI (t + 0) ≤ nI t from Int32.le_refl _)]
      show some (nI t, S) = some (nI t, dk_sr S k0 (c_row c p f (nI st) i lo we))
      rw [← hid]
    | succ k =>
      rw [if_neg (show ¬ nI (t + (k + 1)) ≤ nI t from fun g => by have := (nI_leI (by omega) (by omega)).mp g; omega), w_go]
      by_cases h0 : i = 0
      · subst h0
        rw [if_pos rfl, q_stride hr (by omega), some_bind', if_neg (show ¬ (1 : Int32) = 0 by decide), nI_1, show t + (k + 1) = t + 1 + k by omega, ih k (t + 1) (st + 1) _ _ _ _ _ _ (by omega) (by omega) (by omega) (dk_sr_same _ _ _), dk_sr_ne _ _ (by omega : ¬ k0 + 2 = k0), dk_sr_ne _ _ (by omega : ¬ k0 + 3 = k0), dk_sr_ne _ _ (by omega : ¬ k0 + 4 = k0), dk_sr_sr]
      · rw [if_neg h0, q_stride0 (by rw [hr, c_row_7]; exact h0), some_bind', if_pos rfl]
        show some (nI t, S) = some (nI t, dk_sr S k0 (c_row c p f (nI st) i lo we))
        rw [← hid]
