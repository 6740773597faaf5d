/-! doubles: magnitudes by their bits -/
def Mg (K : Nat) (x : UInt64) : Prop := x.toNat % 2 ^ 63 < K * 2 ^ 52
theorem Mg.up {K K' : Nat} {a : UInt64} (h : Mg K a) (hK : K ≤ K') : Mg K' a := Nat.lt_of_lt_of_le h (Nat.mul_le_mul_right _ hK)
theorem Mg.mul {Ka Kb K : Nat} {a b : UInt64} (ha : Mg Ka a) (hb : Mg Kb b) (hKa : Ka ≤ 2047) (hKb : Kb ≤ 2047) (hK : Ka + Kb - 1025 + 3 ≤ K) : Mg K (FP.dmul a b) :=
  Nat.lt_of_lt_of_le (FP.Core.dmul_mag ha hb hKa hKb) (Nat.mul_le_mul_right _ hK)
theorem Mg.add {K K' : Nat} {a b : UInt64} (ha : Mg K a) (hb : Mg K b) (hK : K ≤ 2047) (hK2 : K + 2 ≤ K') : Mg K' (FP.dadd a b) :=
  Nat.lt_of_lt_of_le (FP.Core.dadd_mag ha hb hK) (Nat.mul_le_mul_right _ hK2)
theorem Mg.sub {K K' : Nat} {a b : UInt64} (ha : Mg K a) (hb : Mg K b) (hK : K ≤ 2047) (hK2 : K + 2 ≤ K') : Mg K' (FP.dsub a b) :=
  Nat.lt_of_lt_of_le (FP.Core.dsub_mag ha hb hK) (Nat.mul_le_mul_right _ hK2)
theorem Mg.div {K K' L : Nat} {a b : UInt64} (ha : Mg K a) (hb : L * 2 ^ 52 ≤ b.toNat % 2 ^ 63) (hb2 : Mg 2047 b) (hK : K ≤ 2047) (hL : 1 ≤ L) (hK2 : K + (1074 - 52 - 1) - L + 3 ≤ K') : Mg K' (FP.ddiv a b) :=
  Nat.lt_of_lt_of_le (FP.Core.ddiv_mag ha hb hb2 hK hL) (Nat.mul_le_mul_right _ hK2)
theorem Mg.i2d (v : Int32) : Mg 1056 (FP.i2d v) := FP.Core.i2d_mag v
theorem Mg.big {v : Int32} (h : v.toInt ≠ 0) : 1023 * 2 ^ 52 ≤ (FP.i2d v).toNat % 2 ^ 63 := (FP.Core.i2d_big h).1
theorem Mg.some {K : Nat} {a b : UInt64} (ha : Mg K a) (hb : Mg K b) (hK : K ≤ 2047) : ∃ o, FP.dcmp a b = Option.some o := by
  have na : FP.Core.val64 a ≠ .nan := (FP.Core.ne_nan a).mpr (by have : a.toNat % 2 ^ 63 < K * 2 ^ 52 := ha; have : K * 2 ^ 52 ≤ 2047 * 2 ^ 52 := Nat.mul_le_mul_right _ hK; omega)
  have nb : FP.Core.val64 b ≠ .nan := (FP.Core.ne_nan b).mpr (by have : b.toNat % 2 ^ 63 < K * 2 ^ 52 := hb; have : K * 2 ^ 52 ≤ 2047 * 2 ^ 52 := Nat.mul_le_mul_right _ hK; omega)
  cases h : FP.dcmp a b with
  | none => exact absurd ((FP.Core.dcmp_none a b).mp h) (fun q => q.elim na nb)
  | some o => exact ⟨o, rfl⟩
theorem d_sub {a b : Int32} (h1 : -2147483648 ≤ a.toInt - b.toInt) (h2 : a.toInt - b.toInt ≤ 2147483647) (hne : a.toInt ≠ b.toInt) : FP.dsub (FP.i2d a) (FP.i2d b) = FP.i2d (a - b) := by
  have e : (a - b).toInt = a.toInt - b.toInt := by
    rw [Int32.toInt_sub]; exact Int.bmod_eq_of_le (by omega) (by omega)
  have h3 := FP.Core.dsub_int (FP.Core.i2d_int a) (FP.Core.i2d_int b) (by omega)
  have h4 := FP.Core.i2d_int (a - b)
  rw [e] at h4
  exact FP.Core.dint_unique (by omega) h3 h4
