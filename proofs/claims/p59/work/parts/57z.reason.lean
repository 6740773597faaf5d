/-! why a step is refused: alike -/
section RS
variable {M N M0 N0 : Mem} {k k1 b s : Nat}
def Fl (N : Mem) (x : Int32) (a c : Nat) : Prop := (x = 1 ∧ Crs N (rd N 136 1).toInt.toNat) ∨ (x = 0 ∧ ∀ q j : Nat, q + 2 ≤ j → (j : Int) < (rd N 136 1).toInt → (q < a ∨ (q = a ∧ j < c)) → ¬ Tch N q j)
/-! the bits of the clamped legs -/
theorem clm_bits0 : ∀ b, b < 8 → ∃ c : Nat, c < 512 ∧ (((2 : Int32) <<< (Int32.ofNat b &&& 31)) - ((1 : Int32) <<< ((0 : Int32) &&& 31))) = Int32.ofNat c ∧ ∀ j, j < 9 → (c.testBit j = decide (j ≤ b)) := by
  intro b hb
  have key : ∀ b, b < 8 → ((2 ^ (b + 1) - 1) < 512 ∧ (((2 : Int32) <<< (Int32.ofNat b &&& 31)) - ((1 : Int32) <<< ((0 : Int32) &&& 31))) = Int32.ofNat (2 ^ (b + 1) - 1) ∧ ∀ j, j < 9 → ((2 ^ (b + 1) - 1).testBit j = decide (j ≤ b))) := by decide +kernel
  exact ⟨_, key b hb⟩
theorem clm_bits1 : ∀ b, b < 8 → ∀ L, L < 10 → b + 1 < L → ∃ c : Nat, c < 512 ∧ (((2 : Int32) <<< (Int32.ofNat (L - 1) &&& 31)) - ((1 : Int32) <<< (Int32.ofNat (b + 1) &&& 31))) = Int32.ofNat c ∧ ∀ j, j < L → (c.testBit j = decide (b < j)) := by
  intro b hb L hL hbL
  have key : ∀ b, b < 8 → ∀ L, L < 10 → b + 1 < L → ((2 ^ L - 2 ^ (b + 1)) < 512 ∧ (((2 : Int32) <<< (Int32.ofNat (L - 1) &&& 31)) - ((1 : Int32) <<< (Int32.ofNat (b + 1) &&& 31))) = Int32.ofNat (2 ^ L - 2 ^ (b + 1)) ∧ ∀ j, j < L → ((2 ^ L - 2 ^ (b + 1)).testBit j = decide (b < j))) := by decide +kernel
  exact ⟨_, key b hb L hL hbL⟩
theorem o_and9 {a m : Nat} (ha : a < 512) (hm : m < 512) : (Int32.ofNat a &&& Int32.ofNat m) = Int32.ofNat (a &&& m) := by
  rw [← Int32.toBitVec_inj]
  apply BitVec.eq_of_toNat_eq
  have e1 : (Int32.ofNat a).toBitVec.toNat = a := by
    have h1 := i_nn2 (x := Int32.ofNat a) (by rw [t_of (by omega)]; omega)
    rw [t_of (by omega)] at h1; omega
  have e2 : (Int32.ofNat m).toBitVec.toNat = m := by
    have h1 := i_nn2 (x := Int32.ofNat m) (by rw [t_of (by omega)]; omega)
    rw [t_of (by omega)] at h1; omega
  have h3 : a &&& m ≤ a := Nat.and_le_left
  have e3 : (Int32.ofNat (a &&& m)).toBitVec.toNat = a &&& m := by
    have h1 := i_nn2 (x := Int32.ofNat (a &&& m)) (by rw [t_of (by omega)]; omega)
    rw [t_of (by omega)] at h1; omega
  rw [e3]
  show ((Int32.ofNat a).toBitVec &&& (Int32.ofNat m).toBitVec).toNat = _
  rw [BitVec.toNat_and, e1, e2]
theorem of_0 {m : Nat} (hm : m < 512) : Int32.ofNat m = 0 ↔ m = 0 := by
  constructor
  · intro h
    have := congrArg Int32.toInt h
    rw [t_of (by omega), show ((0 : Int32)).toInt = 0 from rfl] at this
    omega
  · intro h; rw [h]; rfl
theorem nz_bits {m L : Nat} (hm : m < 2 ^ L) : ¬ m = 0 ↔ ∃ i, i < L ∧ m.testBit i = true := by
  constructor
  · intro h
    apply Decidable.byContradiction
    intro q
    apply h
    apply Nat.eq_of_testBit_eq
    intro i
    rw [Nat.zero_testBit]
    by_cases hi : i < L
    · cases e : m.testBit i with
      | false => rfl
      | true => exact absurd ⟨i, hi, e⟩ q
    · exact Nat.testBit_lt_two_pow (Nat.lt_of_lt_of_le hm (Nat.pow_le_pow_right (by decide) (by omega)))
  · rintro ⟨i, _, h⟩ e
    rw [e, Nat.zero_testBit] at h
    exact absurd h (by decide)
end RS

