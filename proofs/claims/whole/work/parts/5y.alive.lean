/-! a muddled one goes on for ever -/
theorem t_s_next (P : p_P) (p0 : Int32) (n m : Nat) (h : t_s P p0 n = t_s P p0 m) : t_s P p0 (n + 1) = t_s P p0 (m + 1) := by
  rw [t_s, t_s, h]
theorem t_s_per (P : p_P) (p0 : Int32) (n m : Nat) (h : t_s P p0 n = t_s P p0 m) : ∀ k, t_s P p0 (n + k) = t_s P p0 (m + k) := by
  intro k
  induction k with
  | zero => exact h
  | succ k ih => exact t_s_next P p0 (n + k) (m + k) ih
/-- what holds on the way of p_go -/
def pa_J (P : p_P) (p0 : Int32) (n : Nat) (wh : Nat → Option Nat) (p f i : Int32) : Prop := t_s P p0 n = (p, f, i) ∧ (∀ m, m < n → (t_s P p0 m).2.2 = 0) ∧ (∀ j m, wh j = some m → m < n ∧ p_ix (t_s P p0 m).1 (t_s P p0 m).2.1 = j)
theorem pa_go_J (P : p_P) (p0 : Int32) : ∀ (c n : Nat) (wh : Nat → Option Nat) (pcs : Nat → Int32) (p f i : Int32), pa_J P p0 n wh p f i → pa_J P p0 (p_go P c n wh pcs p f i).1 (p_go P c n wh pcs p f i).2.1 (p_go P c n wh pcs p f i).2.2.2.1 (p_go P c n wh pcs p f i).2.2.2.2.1 (p_go P c n wh pcs p f i).2.2.2.2.2 ∧ ((p_go P c n wh pcs p f i).2.2.2.2.2 = 0 → (p_go P c n wh pcs p f i).2.1 (p_ix (p_go P c n wh pcs p f i).2.2.2.1 (p_go P c n wh pcs p f i).2.2.2.2.1) = none → (p_go P c n wh pcs p f i).1 = n + c) := by
  intro c
  induction c with
  | zero => intro n wh pcs p f i h; exact ⟨h, fun _ _ => rfl⟩
  | succ c ih =>
    intro n wh pcs p f i h
    rw [p_go]
    by_cases hc : i = 0 ∧ wh (p_ix p f) = none
    · rw [if_pos hc]
      obtain ⟨h1, h2, h3⟩ := h
      have e0 : (t_s P p0 n).2.2 = 0 := by rw [h1]; exact hc.1
      obtain ⟨g1, g2⟩ := ih (n + 1) (fun j => if j = p_ix p f then some n else wh j) (fun j => if j = n + 1 then (p_S P 0 p f).1 else pcs j) (p_S P 0 p f).1 (p_S P 0 p f).2.1 (p_S P 0 p f).2.2 ⟨by rw [t_s_S e0, h1], fun m hm => by
        by_cases hmn : m = n
        · rw [hmn]; exact e0
        · exact h2 m (by omega), fun j m hj => by
        dsimp only at hj
        by_cases hjx : j = p_ix p f
        · rw [if_pos hjx] at hj
          cases hj
          exact ⟨by omega, by rw [h1, hjx]⟩
        · rw [if_neg hjx] at hj
          obtain ⟨q1, q2⟩ := h3 j m hj
          exact ⟨by omega, q2⟩⟩
      exact ⟨g1, fun q1 q2 => by rw [g2 q1 q2]; omega⟩
    · rw [if_neg hc]
      exact ⟨h, fun q1 q2 => absurd ⟨q1, q2⟩ hc⟩
theorem p_kd_3 {P : p_P} {z : p_Z} (h : (p_K P z).1 = 3) : z.2.2.2.2.2 = 0 := by
  by_cases hi : z.2.2.2.2.2 = 0
  · exact hi
  · unfold p_K at h
    rw [if_neg hi] at h
    by_cases h1 : z.2.2.2.2.2 = 1
    · rw [if_pos h1] at h; exact absurd h (show ¬ (4 : Int32) = 3 by decide)
    · rw [if_neg h1] at h; exact absurd h (show ¬ (5 : Int32) = 3 by decide)
theorem ix_inj {P : p_P} (hl : P.2.2.2.2.toInt ≤ 99) {a n m : Nat} (ha : a ≤ 99) (hn : (t_s P (nI a) n).2.2 = 0) (hm : (t_s P (nI a) m).2.2 = 0) (h : p_ix (t_s P (nI a) n).1 (t_s P (nI a) n).2.1 = p_ix (t_s P (nI a) m).1 (t_s P (nI a) m).2.1) : t_s P (nI a) n = t_s P (nI a) m := by
  obtain ⟨b, hb, eb⟩ := t_s_p hl ha n hn
  obtain ⟨c, hc, ec⟩ := t_s_p hl ha m hm
  obtain ⟨f, hf, ef⟩ := p_foot (t_s_f P (nI a) n)
  obtain ⟨g, hg, eg⟩ := p_foot (t_s_f P (nI a) m)
  rw [eb, ef, ec, eg, (p_ix_nI (by omega) hf).2, (p_ix_nI (by omega) hg).2] at h
  refine Prod.ext ?_ (Prod.ext ?_ ?_)
  · rw [eb, ec, show b = c by omega]
  · rw [ef, eg, show f = g by omega]
  · rw [hn, hm]
theorem alive {P : p_P} (hl : P.2.2.2.2.toInt ≤ 99) {a : Nat} (ha : a ≤ 99) (h : (g_K P a).1 = 3) : ∀ n, n ≤ 400 → (t_s P (nI a) n).2.2 = 0 := by
  unfold g_K at h
  have hi := p_kd_3 h
  have hJ := pa_go_J P (nI a) 400 0 (fun _ => none) (fun _ => nI a) (nI a) 0 0 ⟨rfl, fun m hm => by omega, fun j m hj => by cases hj⟩
  rw [p_res_eq] at hJ
  generalize p_res P (nI a) = z at h hi hJ
  obtain ⟨⟨j1, j2, j3⟩, j4⟩ := hJ
  have hz : (t_s P (nI a) z.1).2.2 = 0 := by rw [j1]; exact hi
  have hlt : ∀ n, n ≤ z.1 → (t_s P (nI a) n).2.2 = 0 := fun n hn => by
    by_cases hnz : n = z.1
    · rw [hnz]; exact hz
    · exact j2 n (by omega)
  cases hw : z.2.1 (p_ix z.2.2.2.1 z.2.2.2.2.1) with
  | none =>
    have := j4 hi hw
    exact fun n hn => hlt n (by omega)
  | some m0 =>
    obtain ⟨q1, q2⟩ := j3 _ _ hw
    have e : t_s P (nI a) m0 = t_s P (nI a) z.1 := ix_inj hl ha (hlt m0 (by omega)) hz (by rw [q2, j1])
    have hall : ∀ n, (t_s P (nI a) n).2.2 = 0 := by
      intro n
      induction n using Nat.strongRecOn with
      | ind n ih =>
        by_cases hn : n ≤ z.1
        · exact hlt n hn
        · obtain ⟨k, hk⟩ : ∃ k, n = z.1 + k := ⟨n - z.1, by omega⟩
          rw [hk, ← t_s_per P (nI a) m0 z.1 e k]
          exact ih (m0 + k) (by omega)
    exact fun n _ => hall n
