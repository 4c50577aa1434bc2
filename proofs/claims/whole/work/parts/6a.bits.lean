/-! a long's bits -/
def l_N (x : Int64) : Nat := x.toBitVec.toNat
theorem l_N_lt (x : Int64) : l_N x < 2 ^ 64 := x.toBitVec.isLt
theorem l_ushr (x : Int64) (s : Int32) (k : Nat) (hs : ((s.toInt64.toUInt64 &&& Int64.toUInt64 63).toBitVec % 64).toNat = k) : l_N (x.toUInt64 >>> (s.toInt64.toUInt64 &&& Int64.toUInt64 63)).toInt64 = l_N x / 2 ^ k := by
  unfold l_N
  have e : (x.toUInt64 >>> (s.toInt64.toUInt64 &&& Int64.toUInt64 63)).toInt64.toBitVec = x.toBitVec >>> k := by
    rw [← hs]
    exact UInt64.toBitVec_shiftRight _ _
  rw [e, BitVec.toNat_ushiftRight, Nat.shiftRight_eq_div_pow]
theorem lb_and (x y : Int64) : l_N (x &&& y) = l_N x &&& l_N y := by
  unfold l_N
  rw [Int64.toBitVec_and, BitVec.toNat_and]
theorem lb_or (x y : Int64) : l_N (x ||| y) = l_N x ||| l_N y := by
  unfold l_N
  rw [Int64.toBitVec_or, BitVec.toNat_or]
theorem lb_sub {x y : Int64} (h : l_N y ≤ l_N x) : l_N (x - y) = l_N x - l_N y := by
  unfold l_N at h ⊢
  rw [Int64.toBitVec_sub, BitVec.toNat_sub_of_le h]
theorem lb_add {x y : Int64} (h : l_N x + l_N y < 2 ^ 64) : l_N (x + y) = l_N x + l_N y := by
  unfold l_N at h ⊢
  rw [Int64.toBitVec_add, BitVec.toNat_add, Nat.mod_eq_of_lt h]
theorem l_m5 : l_N 6148914691236517205 = b_mk 85 8 := by decide +kernel
theorem l_m3 : l_N 3689348814741910323 = b_mk 51 8 := by decide +kernel
theorem l_mf : l_N 1085102592571150095 = b_mk 15 8 := by decide +kernel
theorem b_mk3 : b_mk 51 8 < 2 ^ 62 := by decide +kernel
theorem s_2_lt (x : Nat) : s_2 8 x < 2 ^ 63 := by
  have h1 := Nat.and_le_right (n := s_1 8 x) (m := b_mk 51 8)
  have h2 := Nat.and_le_right (n := s_1 8 x / 4) (m := b_mk 51 8)
  have h3 := b_mk3
  unfold s_2
  omega
theorem q_bcL (x : Int64) (S : dk_S) : fJ13_bitCount_95d88 x S = some (nI (b_P 8 (l_N x)), S) := by
  unfold fJ13_bitCount_95d88
  simp only [dk_lt_eq]
  have hx := l_N_lt x
  obtain ⟨y1, e1⟩ : ∃ y1, y1 = x - (((x.toUInt64 >>> ((1 : Int32).toInt64.toUInt64 &&& Int64.toUInt64 63)).toInt64) &&& 6148914691236517205) := ⟨_, rfl⟩
  rw [← e1]
  have n1 : l_N y1 = s_1 8 (l_N x) := by
    have hh : l_N (((x.toUInt64 >>> ((1 : Int32).toInt64.toUInt64 &&& Int64.toUInt64 63)).toInt64) &&& 6148914691236517205) = (l_N x / 2) &&& b_mk 85 8 := by
      rw [lb_and, l_ushr x 1 1 (by decide), l_m5]
    rw [e1, lb_sub (by rw [hh]; exact and_half 8 _), hh]
    rfl
  obtain ⟨y2, e2⟩ : ∃ y2, y2 = (y1 &&& 3689348814741910323) + (((y1.toUInt64 >>> ((2 : Int32).toInt64.toUInt64 &&& Int64.toUInt64 63)).toInt64) &&& 3689348814741910323) := ⟨_, rfl⟩
  rw [← e2]
  have n2 : l_N y2 = s_2 8 (l_N x) := by
    have ha : l_N (y1 &&& 3689348814741910323) = s_1 8 (l_N x) &&& b_mk 51 8 := by rw [lb_and, n1, l_m3]
    have hb : l_N (((y1.toUInt64 >>> ((2 : Int32).toInt64.toUInt64 &&& Int64.toUInt64 63)).toInt64) &&& 3689348814741910323) = (s_1 8 (l_N x) / 4) &&& b_mk 51 8 := by
      rw [lb_and, l_ushr y1 2 2 (by decide), n1, l_m3]
    have h2 := s_2_lt (l_N x)
    unfold s_2 at h2
    rw [e2, lb_add (by rw [ha, hb]; omega), ha, hb]
    rfl
  obtain ⟨y3, e3⟩ : ∃ y3, y3 = (y2 + ((y2.toUInt64 >>> ((4 : Int32).toInt64.toUInt64 &&& Int64.toUInt64 63)).toInt64)) &&& 1085102592571150095 := ⟨_, rfl⟩
  rw [← e3]
  obtain ⟨f1, f2, f3⟩ := s_6_ok (l_N x)
  have n3 : l_N y3 = s_3 8 (l_N x) := by
    have hb : l_N ((y2.toUInt64 >>> ((4 : Int32).toInt64.toUInt64 &&& Int64.toUInt64 63)).toInt64) = s_2 8 (l_N x) / 16 := by rw [l_ushr y2 4 4 (by decide), n2]
    have h2 := s_2_lt (l_N x)
    have h3 : s_2 8 (l_N x) / 16 ≤ s_2 8 (l_N x) := Nat.div_le_self _ _
    rw [e3, lb_and, lb_add (by rw [hb, n2]; omega), hb, n2, l_mf]
    rfl
  generalize s_3 8 (l_N x) = Y at f1 f3 n3
  obtain ⟨y4, e4⟩ : ∃ y4, y4 = y3 + ((y3.toUInt64 >>> ((8 : Int32).toInt64.toUInt64 &&& Int64.toUInt64 63)).toInt64) := ⟨_, rfl⟩
  rw [← e4]
  have n4 : l_N y4 = Y + Y / 256 := by
    have hb : l_N ((y3.toUInt64 >>> ((8 : Int32).toInt64.toUInt64 &&& Int64.toUInt64 63)).toInt64) = Y / 256 := by rw [l_ushr y3 8 8 (by decide), n3]
    rw [e4, lb_add (by rw [hb, n3]; omega), hb, n3]
  obtain ⟨y5, e5⟩ : ∃ y5, y5 = y4 + ((y4.toUInt64 >>> ((16 : Int32).toInt64.toUInt64 &&& Int64.toUInt64 63)).toInt64) := ⟨_, rfl⟩
  rw [← e5]
  have n5 : l_N y5 = (Y + Y / 256) + (Y + Y / 256) / 65536 := by
    have hb : l_N ((y4.toUInt64 >>> ((16 : Int32).toInt64.toUInt64 &&& Int64.toUInt64 63)).toInt64) = (Y + Y / 256) / 65536 := by rw [l_ushr y4 16 16 (by decide), n4]
    rw [e5, lb_add (by rw [hb, n4]; omega), hb, n4]
  obtain ⟨y6, e6⟩ : ∃ y6, y6 = y5 + ((y5.toUInt64 >>> ((32 : Int32).toInt64.toUInt64 &&& Int64.toUInt64 63)).toInt64) := ⟨_, rfl⟩
  rw [← e6]
  have n6 : l_N y6 = s_6 Y := by
    have hb : l_N ((y5.toUInt64 >>> ((32 : Int32).toInt64.toUInt64 &&& Int64.toUInt64 63)).toInt64) = ((Y + Y / 256) + (Y + Y / 256) / 65536) / 4294967296 := by rw [l_ushr y5 32 32 (by decide), n5]
    rw [e6, lb_add (by rw [hb, n5]; omega), hb, n5]
    rfl
  have n7 : y6.toInt32.toBitVec.toNat = s_6 Y % 4294967296 := by
    rw [Int64.toBitVec_toInt32, BitVec.signExtend_eq_setWidth_of_le _ (by omega), BitVec.toNat_setWidth]
    show l_N y6 % 2 ^ 32 = _
    rw [n6]
  rw [pk_and y6.toInt32 (m := 127) 7 (by decide), n7]
  rw [show (2 : Nat) ^ 7 = 128 by decide, f1]
theorem sh_tab : ∀ p : Fin 64, l_N ((1 : Int64) <<< ((nI p.1).toInt64 &&& 63)) = 2 ^ p.1 := by decide +kernel
theorem l_set {x : Int64} {p : Nat} (hp : p < 64) : l_N (x ||| ((1 : Int64) <<< ((nI p).toInt64 &&& 63))) = l_N x ||| 2 ^ p := by
  rw [lb_or, sh_tab ⟨p, hp⟩]
