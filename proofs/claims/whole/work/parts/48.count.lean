def bc8 (m : Nat) : Nat := m - (m / 2 &&& 0x55555555)
def bc22 (y : Nat) : Nat := (y &&& 0x33333333) + (y / 4 &&& 0x33333333)
def bc32 (z : Nat) : Nat := (z + z / 16) &&& 0x0f0f0f0f
theorem land_s {U v M' m' : Nat} (hv : v < 256) (hm : m' < 256) : (256 * U + v) &&& (256 * M' + m') = 256 * (U &&& M') + (v &&& m') := by
  have h1 : ((256 * U + v) &&& (256 * M' + m')) / 2 ^ 8 = U &&& M' := by
    rw [Nat.and_div_two_pow]
    congr 1 <;> omega
  have h2 : ((256 * U + v) &&& (256 * M' + m')) % 2 ^ 8 = v &&& m' := by
    rw [Nat.and_mod_two_pow]
    congr 1 <;> omega
  omega
theorem land_w {U M : Nat} (hU : U < 2 ^ 24) : U &&& M % 2 ^ 24 = U &&& M := by
  have h1 : (U &&& M) % 2 ^ 24 = U % 2 ^ 24 &&& M % 2 ^ 24 := Nat.and_mod_two_pow
  rw [Nat.mod_eq_of_lt hU, Nat.mod_eq_of_lt (Nat.lt_of_le_of_lt Nat.and_le_left hU)] at h1
  exact h1.symm
theorem land_b {v c m : Nat} (hv : v < 128) (hm : m < 128) : (v + 128 * c) % 256 &&& m = v &&& m := by
  have h1 : ((v + 128 * c) % 256 &&& m) % 2 ^ 7 = (v + 128 * c) % 256 % 2 ^ 7 &&& m % 2 ^ 7 := Nat.and_mod_two_pow
  rw [Nat.mod_eq_of_lt (b := 2 ^ 7) (Nat.lt_of_le_of_lt Nat.and_le_right hm)] at h1
  rw [h1]
  congr 1 <;> omega
theorem land_c {v c m : Nat} (hv : v < 64) (hm : m < 64) : (v + 64 * c) % 256 &&& m = v &&& m := by
  have h1 : ((v + 64 * c) % 256 &&& m) % 2 ^ 6 = (v + 64 * c) % 256 % 2 ^ 6 &&& m % 2 ^ 6 := Nat.and_mod_two_pow
  rw [Nat.mod_eq_of_lt (b := 2 ^ 6) (Nat.lt_of_le_of_lt Nat.and_le_right hm)] at h1
  rw [h1]
  congr 1 <;> omega
theorem land_d {v c m : Nat} (hm : m < 16) : (v + 16 * c) % 256 &&& m = v % 256 &&& m := by
  have h1 : ((v + 16 * c) % 256 &&& m) % 2 ^ 4 = (v + 16 * c) % 256 % 2 ^ 4 &&& m % 2 ^ 4 := Nat.and_mod_two_pow
  have h2 : (v % 256 &&& m) % 2 ^ 4 = v % 256 % 2 ^ 4 &&& m % 2 ^ 4 := Nat.and_mod_two_pow
  rw [Nat.mod_eq_of_lt (b := 2 ^ 4) (Nat.lt_of_le_of_lt Nat.and_le_right hm)] at h1 h2
  rw [h1, h2]
  congr 1; omega
theorem bc8_s {a b : Nat} (ha : a < 256) (hb : b < 2 ^ 24) : bc8 (256 * b + a) = 256 * bc8 b + bc8 a := by
  unfold bc8
  have e : (256 * b + a) / 2 = 256 * (b / 2) + (a / 2 + 128 * b) % 256 := by omega
  have h1 : (256 * b + a) / 2 &&& 0x55555555 = 256 * (b / 2 &&& 0x55555555) + (a / 2 &&& 0x55555555) := by
    rw [e, show 0x55555555 = 256 * 0x555555 + 0x55 from rfl, land_s (by omega) (by omega), land_b (by omega) (by omega)]
    have h2 : b / 2 &&& 0x555555 = b / 2 &&& 0x55555555 := land_w (M := 0x55555555) (by omega)
    rw [h2]
    have h3 : a / 2 &&& 0x55555555 = a / 2 &&& 0x55 := by
      have := land_s (U := 0) (v := a / 2) (M' := 0x555555) (m' := 0x55) (by omega) (by omega)
      rw [Nat.zero_and] at this
      simpa using this
    rw [show 256 * 0x555555 + 0x55 = 0x55555555 from rfl, h3]
  rw [h1]
  have l1 : (b / 2 &&& 0x55555555) ≤ b / 2 := Nat.and_le_left
  have l2 : (a / 2 &&& 0x55555555) ≤ a / 2 := Nat.and_le_left
  omega
theorem bc22_s {a b : Nat} (ha : a < 256) (hb : b < 2 ^ 24) : bc22 (256 * b + a) = 256 * bc22 b + bc22 a := by
  unfold bc22
  have e : (256 * b + a) / 4 = 256 * (b / 4) + (a / 4 + 64 * b) % 256 := by omega
  have h3 : ∀ v, v < 256 → v &&& 0x33333333 = v &&& 0x33 := fun v hv => by
    have := land_s (U := 0) (v := v) (M' := 0x333333) (m' := 0x33) hv (by omega)
    rw [Nat.zero_and] at this
    simpa using this
  have h2 : ∀ v, v < 2 ^ 24 → v &&& 0x333333 = v &&& 0x33333333 := fun v hv => land_w (M := 0x33333333) hv
  have g1 : (256 * b + a) &&& 0x33333333 = 256 * (b &&& 0x33333333) + (a &&& 0x33333333) := by
    rw [h3 a ha, ← h2 b hb]
    exact land_s (M' := 0x333333) (m' := 0x33) ha (by omega)
  have g2 : (256 * b + a) / 4 &&& 0x33333333 = 256 * (b / 4 &&& 0x33333333) + (a / 4 &&& 0x33333333) := by
    rw [e, h3 (a / 4) (by omega), ← h2 (b / 4) (by omega)]
    have := land_s (U := b / 4) (v := (a / 4 + 64 * b) % 256) (M' := 0x333333) (m' := 0x33) (by omega) (by omega)
    rw [land_c (by omega) (by omega)] at this
    exact this
  rw [g1, g2]
  omega
theorem bc32_s {a b : Nat} (ha : a < 256) (hb : b < 2 ^ 23) (h1 : a % 16 ≤ 4) (h2 : a / 16 ≤ 4) (h3 : b % 16 ≤ 4) : bc32 (256 * b + a) = 256 * bc32 b + bc32 a := by
  unfold bc32
  have e : 256 * b + a + (256 * b + a) / 16 = 256 * (b + b / 16) + (a + a / 16 + 16 * b) % 256 := by omega
  have g3 : ∀ v, v < 256 → v &&& 0x0f0f0f0f = v &&& 0x0f := fun v hv => by
    have := land_s (U := 0) (v := v) (M' := 0x0f0f0f) (m' := 0x0f) hv (by omega)
    rw [Nat.zero_and] at this
    simpa using this
  have g2 : ∀ v, v < 2 ^ 24 → v &&& 0x0f0f0f = v &&& 0x0f0f0f0f := fun v hv => land_w (M := 0x0f0f0f0f) hv
  rw [e, g3 (a + a / 16) (by omega), ← g2 (b + b / 16) (by omega)]
  have := land_s (U := b + b / 16) (v := (a + a / 16 + 16 * b) % 256) (M' := 0x0f0f0f) (m' := 0x0f) (by omega) (by omega)
  rw [land_d (by omega), Nat.mod_eq_of_lt (show a + a / 16 < 256 by omega)] at this
  exact this
def pc8 (a : Nat) : Nat := (a.testBit 0).toNat + (a.testBit 1).toNat + (a.testBit 2).toNat + (a.testBit 3).toNat + (a.testBit 4).toNat + (a.testBit 5).toNat + (a.testBit 6).toNat + (a.testBit 7).toNat
theorem byte_f : ∀ a : Fin 256, bc8 a.1 < 256 ∧ bc22 (bc8 a.1) < 256 ∧ bc22 (bc8 a.1) % 16 ≤ 4 ∧ bc22 (bc8 a.1) / 16 ≤ 4 ∧ bc32 (bc22 (bc8 a.1)) = pc8 a.1 ∧ pc8 a.1 ≤ 8 := by decide +kernel
theorem byte_g {a : Nat} (h : a < 256) : bc8 a < 256 ∧ bc22 (bc8 a) < 256 ∧ bc22 (bc8 a) % 16 ≤ 4 ∧ bc22 (bc8 a) / 16 ≤ 4 ∧ bc32 (bc22 (bc8 a)) = pc8 a ∧ pc8 a ≤ 8 := byte_f ⟨a, h⟩
theorem bc_all {b0 b1 b2 b3 : Nat} (h0 : b0 < 256) (h1 : b1 < 256) (h2 : b2 < 256) (h3 : b3 < 256) : bc32 (bc22 (bc8 (256 * (256 * (256 * b3 + b2) + b1) + b0))) = 256 * (256 * (256 * pc8 b3 + pc8 b2) + pc8 b1) + pc8 b0 := by
  obtain ⟨u1, u2, u3, u4, u5, u6⟩ := byte_g h0
  obtain ⟨v1, v2, v3, v4, v5, v6⟩ := byte_g h1
  obtain ⟨w1, w2, w3, w4, w5, w6⟩ := byte_g h2
  obtain ⟨x1, x2, x3, x4, x5, x6⟩ := byte_g h3
  rw [bc8_s h0 (by omega), bc8_s h1 (by omega), bc8_s h2 (by omega)]
  rw [bc22_s u1 (by omega), bc22_s v1 (by omega), bc22_s w1 (by omega)]
  rw [bc32_s u2 (by omega) u3 u4 (by omega), bc32_s v2 (by omega) v3 v4 (by omega), bc32_s w2 (by omega) w3 w4 (by omega)]
  rw [u5, v5, w5, x5]
theorem bc_end {c0 c1 c2 c3 : Nat} (h0 : c0 ≤ 8) (h1 : c1 ≤ 8) (h2 : c2 ≤ 8) (h3 : c3 ≤ 8) {y : Nat} (hy : y = 256 * (256 * (256 * c3 + c2) + c1) + c0) : ((y + y / 256) + (y + y / 256) / 65536) &&& 63 = c0 + c1 + c2 + c3 := by
  rw [show (63 : Nat) = 2 ^ 6 - 1 from rfl, Nat.and_two_pow_sub_one_eq_mod]
  have e1 : y / 256 = 65536 * c3 + 256 * c2 + c1 := by omega
  have e2 : (y + y / 256) / 65536 = 256 * c3 + c2 + c3 := by rw [e1, hy]; omega
  rw [e2, e1, hy]
  omega
def cntTo (m : Int32) : Nat → Nat
  | 0 => 0
  | j + 1 => cntTo m j + (bt m j).toNat
theorem bt_nat (m : Int32) (j : Nat) : bt m j = m.toBitVec.toNat.testBit j := rfl
theorem tb_byte (N i r : Nat) (hr : r < 8) : N.testBit (8 * i + r) = (N / 2 ^ (8 * i) % 256).testBit r := by
  rw [show (256 : Nat) = 2 ^ 8 from rfl, Nat.testBit_mod_two_pow, Nat.testBit_div_two_pow]
  simp [hr]
  rw [Nat.add_comm]
theorem cnt_32 (m : Int32) {N : Nat} (hN : m.toBitVec.toNat = N) : cntTo m 32 = pc8 (N % 256) + pc8 (N / 256 % 256) + pc8 (N / 65536 % 256) + pc8 (N / 16777216 % 256) := by
  have h0 : ∀ r, r < 8 → bt m r = (N % 256).testBit r := fun r hr => by
    have := tb_byte N 0 r hr
    rw [bt_nat, hN, show r = 8 * 0 + r from by omega, this]; simp
  have h1 : ∀ r, r < 8 → bt m (8 + r) = (N / 256 % 256).testBit r := fun r hr => by rw [bt_nat, hN]; exact tb_byte N 1 r hr
  have h2 : ∀ r, r < 8 → bt m (16 + r) = (N / 65536 % 256).testBit r := fun r hr => by rw [bt_nat, hN]; exact tb_byte N 2 r hr
  have h3 : ∀ r, r < 8 → bt m (24 + r) = (N / 16777216 % 256).testBit r := fun r hr => by rw [bt_nat, hN]; exact tb_byte N 3 r hr
  unfold pc8
  rw [← h0 0 (by omega), ← h0 1 (by omega), ← h0 2 (by omega), ← h0 3 (by omega), ← h0 4 (by omega), ← h0 5 (by omega), ← h0 6 (by omega), ← h0 7 (by omega)]
  rw [← h1 0 (by omega), ← h1 1 (by omega), ← h1 2 (by omega), ← h1 3 (by omega), ← h1 4 (by omega), ← h1 5 (by omega), ← h1 6 (by omega), ← h1 7 (by omega)]
  rw [← h2 0 (by omega), ← h2 1 (by omega), ← h2 2 (by omega), ← h2 3 (by omega), ← h2 4 (by omega), ← h2 5 (by omega), ← h2 6 (by omega), ← h2 7 (by omega)]
  rw [← h3 0 (by omega), ← h3 1 (by omega), ← h3 2 (by omega), ← h3 3 (by omega), ← h3 4 (by omega), ← h3 5 (by omega), ← h3 6 (by omega), ← h3 7 (by omega)]
  simp only [cntTo, Nat.reduceAdd]
  omega
theorem tn_and (a b : Int32) : (a &&& b).toBitVec.toNat = a.toBitVec.toNat &&& b.toBitVec.toNat := by rw [Int32.toBitVec_and, BitVec.toNat_and]
theorem tn_add {a b : Int32} (h : a.toBitVec.toNat + b.toBitVec.toNat < 2 ^ 32) : (a + b).toBitVec.toNat = a.toBitVec.toNat + b.toBitVec.toNat := by rw [Int32.toBitVec_add, BitVec.toNat_add, Nat.mod_eq_of_lt h]
theorem tn_sub {a b : Int32} (h : b.toBitVec.toNat ≤ a.toBitVec.toNat) : (a - b).toBitVec.toNat = a.toBitVec.toNat - b.toBitVec.toNat := by
  rw [Int32.toBitVec_sub, BitVec.toNat_sub]
  have := a.toBitVec.isLt
  have := b.toBitVec.isLt
  omega
theorem tn_sh (a c : Int32) {k : Nat} (hc : (c.toUInt32 &&& Int32.toUInt32 31).toBitVec % 32 = BitVec.ofNat 32 k) (hk : k < 32) : ((a.toUInt32 >>> (c.toUInt32 &&& Int32.toUInt32 31)).toInt32).toBitVec.toNat = a.toBitVec.toNat / 2 ^ k := by
  show (a.toUInt32 >>> (c.toUInt32 &&& Int32.toUInt32 31)).toBitVec.toNat = _
  rw [UInt32.toBitVec_shiftRight, hc, BitVec.ushiftRight_eq', BitVec.toNat_ushiftRight, Nat.shiftRight_eq_div_pow, BitVec.toNat_ofNat, Nat.mod_eq_of_lt (by omega)]
  rfl
theorem cnt_s (m : Int32) : f_JI_bitCount m = nI (cntTo m 32) := by
  have hN : m.toBitVec.toNat < 2 ^ 32 := m.toBitVec.isLt
  rw [cnt_32 m rfl]
  generalize hNe : m.toBitVec.toNat = N at *
  have b0 : N % 256 < 256 := by omega
  have b1 : N / 256 % 256 < 256 := by omega
  have b2 : N / 65536 % 256 < 256 := by omega
  have b3 : N / 16777216 % 256 < 256 := by omega
  have hNs : N = 256 * (256 * (256 * (N / 16777216 % 256) + N / 65536 % 256) + N / 256 % 256) + N % 256 := by omega
  have hall := bc_all b0 b1 b2 b3
  rw [← hNs] at hall
  obtain ⟨u1, u2, u3, u4, u5, u6⟩ := byte_g b0
  obtain ⟨v1, v2, v3, v4, v5, v6⟩ := byte_g b1
  obtain ⟨w1, w2, w3, w4, w5, w6⟩ := byte_g b2
  obtain ⟨x1, x2, x3, x4, x5, x6⟩ := byte_g b3
  have h8 : bc8 N = 256 * (256 * (256 * bc8 (N / 16777216 % 256) + bc8 (N / 65536 % 256)) + bc8 (N / 256 % 256)) + bc8 (N % 256) := by
    conv => lhs; rw [hNs]
    rw [bc8_s b0 (by omega), bc8_s b1 (by omega), bc8_s b2 (by omega)]
  have h22 : bc22 (bc8 N) = 256 * (256 * (256 * bc22 (bc8 (N / 16777216 % 256)) + bc22 (bc8 (N / 65536 % 256))) + bc22 (bc8 (N / 256 % 256))) + bc22 (bc8 (N % 256)) := by
    rw [h8, bc22_s u1 (by omega), bc22_s v1 (by omega), bc22_s w1 (by omega)]
  have hend := bc_end u6 v6 w6 x6 hall
  apply Int32.toBitVec_inj.mp
  apply BitVec.eq_of_toNat_eq
  have e3 := tn_sh m 1 (k := 1) (by decide) (by omega)
  rw [hNe] at e3
  have e7 : (((m.toUInt32 >>> ((1 : Int32).toUInt32 &&& Int32.toUInt32 31)).toInt32) &&& (1431655765 : Int32)).toBitVec.toNat = N / 2 &&& 0x55555555 := by rw [tn_and, e3]; rfl
  have e8 : (m - (((m.toUInt32 >>> ((1 : Int32).toUInt32 &&& Int32.toUInt32 31)).toInt32) &&& (1431655765 : Int32))).toBitVec.toNat = bc8 N := by
    rw [tn_sub, e7, hNe]; · rfl
    rw [e7, hNe]
    exact Nat.le_trans Nat.and_le_left (by omega)
  unfold f_JI_bitCount
  dsimp only
  generalize m - (((m.toUInt32 >>> ((1 : Int32).toUInt32 &&& Int32.toUInt32 31)).toInt32) &&& (1431655765 : Int32)) = y8 at *
  have e17 := tn_sh y8 2 (k := 2) (by decide) (by omega)
  rw [e8] at e17
  have e22 : ((y8 &&& (858993459 : Int32)) + (((y8.toUInt32 >>> ((2 : Int32).toUInt32 &&& Int32.toUInt32 31)).toInt32) &&& (858993459 : Int32))).toBitVec.toNat = bc22 (bc8 N) := by
    have c1 : (y8 &&& (858993459 : Int32)).toBitVec.toNat = bc8 N &&& 0x33333333 := by rw [tn_and, e8]; rfl
    have c2 : (((y8.toUInt32 >>> ((2 : Int32).toUInt32 &&& Int32.toUInt32 31)).toInt32) &&& (858993459 : Int32)).toBitVec.toNat = bc8 N / 4 &&& 0x33333333 := by rw [tn_and, e17]; rfl
    have l1 : (bc8 N &&& 0x33333333) ≤ 0x33333333 := Nat.and_le_right
    have l2 : (bc8 N / 4 &&& 0x33333333) ≤ 0x33333333 := Nat.and_le_right
    rw [tn_add (by rw [c1, c2]; omega), c1, c2]; rfl
  generalize (y8 &&& (858993459 : Int32)) + (((y8.toUInt32 >>> ((2 : Int32).toUInt32 &&& Int32.toUInt32 31)).toInt32) &&& (858993459 : Int32)) = y22 at *
  have e27 := tn_sh y22 4 (k := 4) (by decide) (by omega)
  rw [e22] at e27
  have e32 : ((y22 + (y22.toUInt32 >>> ((4 : Int32).toUInt32 &&& Int32.toUInt32 31)).toInt32) &&& (252645135 : Int32)).toBitVec.toNat = bc32 (bc22 (bc8 N)) := by
    rw [tn_and, tn_add, e27, e22]; · rfl
    rw [e27, e22, h22]; omega
  generalize (y22 + (y22.toUInt32 >>> ((4 : Int32).toUInt32 &&& Int32.toUInt32 31)).toInt32) &&& (252645135 : Int32) = y32 at *
  have e38 := tn_sh y32 8 (k := 8) (by decide) (by omega)
  rw [e32] at e38
  have e39 : (y32 + (y32.toUInt32 >>> ((8 : Int32).toUInt32 &&& Int32.toUInt32 31)).toInt32).toBitVec.toNat = bc32 (bc22 (bc8 N)) + bc32 (bc22 (bc8 N)) / 256 := by
    rw [tn_add, e38, e32]
    rw [e38, e32, hall]; omega
  generalize y32 + (y32.toUInt32 >>> ((8 : Int32).toUInt32 &&& Int32.toUInt32 31)).toInt32 = y39 at *
  have e45 := tn_sh y39 16 (k := 16) (by decide) (by omega)
  rw [e39] at e45
  show ((y39 + (y39.toUInt32 >>> ((16 : Int32).toUInt32 &&& Int32.toUInt32 31)).toInt32) &&& (63 : Int32)).toBitVec.toNat = _
  rw [tn_and, tn_add, e45, e39]
  · refine hend.trans ?_
    show _ = (BitVec.ofNat 32 _).toNat
    rw [BitVec.toNat_ofNat]
    exact (Nat.mod_eq_of_lt (by omega)).symm
  · rw [e45, e39, hall]; omega
theorem cnt_or {m : Int32} {L : Nat} (hL : L < 26) (hb : bt m L = false) : ∀ j, cntTo (m ||| ((1 : Int32) <<< (nI L &&& 31))) j = cntTo m j + (if L < j then 1 else 0)
  | 0 => rfl
  | j + 1 => by
    show cntTo _ j + _ = cntTo m j + _ + _
    rw [cnt_or hL hb j, bt_or, bt_1 hL]
    by_cases q : L = j
    · subst q
      rw [hb, if_neg (by omega), if_pos (by omega)]
      simp
    · by_cases q2 : L < j
      · rw [if_pos q2, if_pos (by omega)]; simp [q]; omega
      · rw [if_neg q2, if_neg (by omega)]; simp [q]
theorem cnt_add {m : Int32} {L : Nat} (hL : L < 26) (hb : bt m L = false) : f_JI_bitCount (m ||| ((1 : Int32) <<< (nI L &&& 31))) = f_JI_bitCount m + 1 := by
  rw [cnt_s, cnt_s, cnt_or hL hb, if_pos (by omega), nI_1]
