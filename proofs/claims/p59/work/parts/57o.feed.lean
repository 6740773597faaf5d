/-! the bytes that are fed -/
section FD
variable {M N : Mem}
theorem bv_low (b : BitVec 32) (s : Nat) (hs : s ≤ 24) : (b.sshiftRight s).setWidth 8 = (b >>> s).setWidth 8 := by
  apply BitVec.eq_of_getLsbD_eq
  intro i hi
  rw [BitVec.getLsbD_setWidth, BitVec.getLsbD_setWidth, BitVec.getLsbD_sshiftRight, BitVec.getLsbD_ushiftRight]
  have h1 : decide (i < 8) = true := decide_eq_true hi
  have h2 : ¬ (32 ≤ i) := by omega
  have h3 : s + i < 32 := by omega
  simp [h1, h2, h3]
theorem br_of {x y : Int32} {c : BitVec 8} (hx : x.toInt = c.toInt) (hy : y.toInt = (c.toNat : Int)) : BR x y := by
  have h := BitVec.toInt_eq_toNat_cond c
  have hc := c.isLt
  by_cases q : 2 * c.toNat < 2 ^ 8
  · rw [if_pos q] at h
    exact Or.inl ⟨i_eq.mpr (by omega), by omega, by omega⟩
  · rw [if_neg q] at h
    exact Or.inr ⟨by omega, by omega⟩
theorem cl_byte {z : Int32} {d : BitVec 32} (h : z.toBitVec = d) : (vp_nar .byte (z.toInt8.toInt32)).toInt = (d.setWidth 8).toInt := by
  have e : vp_nar .byte (z.toInt8.toInt32) = (z.toInt8.toInt32).toInt8.toInt32 := rfl
  rw [e, Int8.toInt8_toInt32, Int8.toInt_toInt32]
  have e2 : z.toInt8.toBitVec = z.toBitVec.setWidth 8 := (show z.toInt8.toBitVec = z.toBitVec.signExtend 8 from rfl).trans (BitVec.signExtend_eq_setWidth_of_le _ (by decide))
  rw [← h, ← e2]
  rfl
theorem rf_byte {z : Int32} {d : BitVec 32} (h : z.toBitVec = d &&& 255#32) : z.toInt = ((d.setWidth 8).toNat : Int) := by
  have e : (d &&& 255#32).toNat = d.toNat % 256 := by
    rw [BitVec.toNat_and]
    show d.toNat &&& 255 = _
    exact Nat.and_two_pow_sub_one_eq_mod d.toNat 8
  have h1 : z.toBitVec.toNat = d.toNat % 256 := by rw [h, e]
  rw [i_lo (by rw [h1]; omega), h1, BitVec.toNat_setWidth]
theorem br_byte {x s : Int32} (hs : s = 24 ∨ s = 16 ∨ s = 8 ∨ s = 0) : BR (vp_nar .byte ((x >>> (s &&& 31)).toInt8.toInt32)) (((x).toUInt32 >>> ((s).toUInt32 &&& Int32.toUInt32 31)).toInt32 &&& (255 : Int32)) := by
  rcases hs with rfl | rfl | rfl | rfl
  · have h1 : (x >>> ((24 : Int32) &&& 31)).toBitVec = x.toBitVec.sshiftRight 24 := rfl
    have h2 : ((((x).toUInt32 >>> ((24 : Int32).toUInt32 &&& Int32.toUInt32 31)).toInt32 &&& (255 : Int32))).toBitVec = (x.toBitVec >>> 24) &&& 255#32 := rfl
    exact br_of ((cl_byte h1).trans (by rw [bv_low _ 24 (by decide)])) (rf_byte h2)
  · have h1 : (x >>> ((16 : Int32) &&& 31)).toBitVec = x.toBitVec.sshiftRight 16 := rfl
    have h2 : ((((x).toUInt32 >>> ((16 : Int32).toUInt32 &&& Int32.toUInt32 31)).toInt32 &&& (255 : Int32))).toBitVec = (x.toBitVec >>> 16) &&& 255#32 := rfl
    exact br_of ((cl_byte h1).trans (by rw [bv_low _ 16 (by decide)])) (rf_byte h2)
  · have h1 : (x >>> ((8 : Int32) &&& 31)).toBitVec = x.toBitVec.sshiftRight 8 := rfl
    have h2 : ((((x).toUInt32 >>> ((8 : Int32).toUInt32 &&& Int32.toUInt32 31)).toInt32 &&& (255 : Int32))).toBitVec = (x.toBitVec >>> 8) &&& 255#32 := rfl
    exact br_of ((cl_byte h1).trans (by rw [bv_low _ 8 (by decide)])) (rf_byte h2)
  · have h1 : (x >>> ((0 : Int32) &&& 31)).toBitVec = x.toBitVec.sshiftRight 0 := rfl
    have h2 : ((((x).toUInt32 >>> ((0 : Int32).toUInt32 &&& Int32.toUInt32 31)).toInt32 &&& (255 : Int32))).toBitVec = (x.toBitVec >>> 0) &&& 255#32 := rfl
    exact br_of ((cl_byte h1).trans (by rw [bv_low _ 0 (by decide)])) (rf_byte h2)
abbrev SFc (k j : Nat) : Prop := k = 1 ∨ (k = 0 ∧ j = 1)
abbrev SFr (k j : Nat) : Prop := k = 140 ∨ (k = 135 ∧ (j = 5 ∨ j = 7))
end FD

