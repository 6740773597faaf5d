/-! legs laid alike: the class's places, the reference's arrays -/
/-- a leg laid by both -/
def LG (k : Nat) (M N : Mem) (l : Nat) : Prop := rd M (k + 1) l = rd N 143 l ∧ rd M (k + 2) l = rd N 144 l ∧ rd M (k + 3) l = imin (rd N 141 l) (rd N 143 l) ∧ rd M (k + 4) l = imax (rd N 141 l) (rd N 143 l) ∧ rd M (k + 5) l = imin (rd N 142 l) (rd N 144 l) ∧ rd M (k + 6) l = imax (rd N 142 l) (rd N 144 l)
/-- what the class lays, what the reference lays -/
def SPl (k : Nat) (c _ : Nat) : Prop := k + 1 ≤ c ∧ c ≤ k + 6
def SRl (c j : Nat) : Prop := (141 ≤ c ∧ c ≤ 144) ∨ (c = 135 ∧ (j = 21 ∨ j = 22))
theorem f_has0 : ∀ a, a < 256 → ∀ k, k < 9 → ((((Int32.ofNat a >>> (Int32.ofNat k &&& 31)) &&& (1 : Int32)) = 0) ↔ a.testBit k = false) := by decide +kernel
theorem f_hasx : ∀ a, a < 256 → ∀ k, k < 8 → (((((Int32.ofNat a ^^^ (-1 : Int32)) >>> (Int32.ofNat k &&& 31)) &&& (1 : Int32)) = 0) ↔ a.testBit k = true) := by decide +kernel
theorem f_turn : ∀ d, d < 4 → ∀ t, t < 4 → ((Int32.ofNat d + Int32.ofNat t) &&& (3 : Int32)) = Int32.ofNat ((d + t) % 4) ∧ ((Int32.ofNat d + Int32.ofNat t) - (Int32.ofNat d + Int32.ofNat t) / (4 : Int32) * (4 : Int32)) = Int32.ofNat ((d + t) % 4) := by decide +kernel
section WK
variable {M N M0 N0 : Mem} {f : Nat → Int32} {k k1 : Nat}
theorem m1_mul (x : Int32) : (-1 : Int32) * x = -x := by
  have : (-1 : Int32) = -(1 : Int32) := rfl
  rw [this, Int32.neg_mul, Int32.one_mul]
/-- how far a leg goes across, up -/
def goX (d v : Int32) : Int32 := if d = 1 then v else if d = 3 then -v else 0
def goY (d v : Int32) : Int32 := if d = 0 then v else if d = 2 then -v else 0
end WK

