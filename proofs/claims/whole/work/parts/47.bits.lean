def bt (m : Int32) (L : Nat) : Bool := m.toBitVec.getLsbD L
theorem bt_or (a b : Int32) (j : Nat) : bt (a ||| b) j = (bt a j || bt b j) := by
  unfold bt
  rw [Int32.toBitVec_or, BitVec.getLsbD_or]
theorem bt_and (a b : Int32) (j : Nat) : bt (a &&& b) j = (bt a j && bt b j) := by
  unfold bt
  rw [Int32.toBitVec_and, BitVec.getLsbD_and]
theorem bt_not (a : Int32) {j : Nat} (hj : j < 32) : bt (a ^^^ (-1)) j = !bt a j := by
  unfold bt
  rw [Int32.toBitVec_xor, BitVec.getLsbD_xor, show (-1 : Int32).toBitVec = BitVec.allOnes 32 from by decide, BitVec.getLsbD_allOnes]
  simp [hj]
theorem bt_0 (j : Nat) : bt 0 j = false := by
  unfold bt
  rw [show (0 : Int32).toBitVec = 0#32 from rfl, BitVec.getLsbD_zero]
theorem bt_ext {a b : Int32} (h : ∀ j, j < 32 → bt a j = bt b j) : a = b := by
  apply Int32.toBitVec_inj.mp
  apply BitVec.eq_of_getLsbD_eq
  intro i hi
  exact h i hi
theorem bt_z {a : Int32} : a = 0 ↔ ∀ j, j < 32 → bt a j = false := ⟨fun h j _ => by rw [h, bt_0], fun h => bt_ext fun j hj => by rw [h j hj, bt_0]⟩
theorem one_bv : ∀ L : Fin 26, ((1 : Int32) <<< (nI L.1 &&& 31)).toBitVec = BitVec.twoPow 32 L.1 := by decide +kernel
theorem bt_1 {L : Nat} (hL : L < 26) (j : Nat) : bt ((1 : Int32) <<< (nI L &&& 31)) j = decide (L = j) := by
  unfold bt
  rw [one_bv ⟨L, hL⟩, BitVec.getLsbD_twoPow]
  simp
  omega
theorem sh_u : ∀ L : Fin 26, ((nI L.1).toUInt32 &&& Int32.toUInt32 31) = UInt32.ofNat L.1 := by decide +kernel
theorem sh_i : ∀ L : Fin 26, (nI L.1 &&& 31) = nI L.1 := by decide +kernel
theorem and1 (x : Int32) : x &&& 1 = if bt x 0 then 1 else 0 := by
  apply bt_ext
  intro j hj
  rw [bt_and]
  by_cases q : j = 0
  · subst q
    rw [show bt 1 0 = true from rfl, Bool.and_true]
    cases h : bt x 0
    · simp [bt_0]
    · simp; rfl
  · have e : bt 1 j = false := by
      have := bt_1 (L := 0) (by omega) j
      rw [show ((1 : Int32) <<< (nI 0 &&& 31)) = 1 from by decide] at this
      rw [this]; simp; omega
    rw [e, Bool.and_false]
    split
    · exact e.symm
    · exact (bt_0 j).symm
theorem bt_has (m : Int32) {L : Nat} (hL : L < 26) : f_GS_hasBit m (nI L) = if bt m L then 1 else 0 := by
  unfold f_GS_hasBit
  show (if (m.toUInt32 >>> ((nI L).toUInt32 &&& Int32.toUInt32 31)).toInt32 &&& (1 : Int32) = 0 then (0 : Int32) else 1) = _
  rw [sh_u ⟨L, hL⟩, and1]
  have e : bt ((m.toUInt32 >>> UInt32.ofNat L).toInt32) 0 = bt m L := by
    show (m.toUInt32 >>> UInt32.ofNat L).toBitVec.getLsbD 0 = m.toBitVec.getLsbD L
    rw [UInt32.toBitVec_shiftRight]
    have e2 : (UInt32.ofNat L).toBitVec % 32 = BitVec.ofNat 32 L := by
      apply BitVec.eq_of_toNat_eq
      simp
      omega
    rw [e2, BitVec.ushiftRight_eq', BitVec.getLsbD_ushiftRight]
    simp
    rw [Nat.mod_eq_of_lt (by omega)]
  rw [e]
  cases bt m L <;> rfl
theorem bt_ref (m : Int32) {L : Nat} (hL : L < 26) : (m >>> (nI L &&& 31)) &&& 1 = if bt m L then 1 else 0 := by
  rw [sh_i ⟨L, hL⟩, and1]
  have e : bt (m >>> nI L) 0 = bt m L := by
    unfold bt
    rw [Int32.toBitVec_shiftRight]
    have e2 : (nI L).toBitVec.smod 32 = BitVec.ofNat 32 L := by
      have : ∀ L : Fin 26, (nI L.1).toBitVec.smod 32 = BitVec.ofNat 32 L.1 := by decide +kernel
      exact this ⟨L, hL⟩
    rw [e2]
    show (BitVec.sshiftRight m.toBitVec (BitVec.ofNat 32 L).toNat).getLsbD 0 = _
    rw [BitVec.getLsbD_sshiftRight]
    simp
    rw [Nat.mod_eq_of_lt (by omega)]
    rw [if_pos (by omega)]
  rw [e]
