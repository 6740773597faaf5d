/-! the legs that hit, as bits -/
theorem f_or9 : ∀ a, a < 512 → ∀ k, k < 9 → (Int32.ofNat a ||| ((1 : Int32) <<< (Int32.ofNat k &&& 31))) = Int32.ofNat (a ||| 2 ^ k) := by decide +kernel
section MK
variable {M N M0 N0 : Mem} {k k1 b s : Nat}
def HB (N : Mem) (l : Nat) : Prop := Ent N l (-(rd N 136 39)) 0 0 (rd N 136 40) ∨ Ent N l (-(rd N 136 41)) 0 (-(rd N 136 42)) 0
def HW (N : Mem) (l : Nat) : Prop := Ent N l 0 (rd N 136 43) 0 (rd N 136 44)
theorem or_0 (x : Int32) : x ||| 0 = x := Int32.or_zero
theorem bit_step {m j : Nat} {P : Nat → Prop} {Q : Prop} (hm : m < 2 ^ j) (hb : ∀ i, i < j → (m.testBit i = true ↔ P i)) (hQ : Q ↔ P j) : (Q → (m ||| 2 ^ j) < 2 ^ (j + 1) ∧ ∀ i, i < j + 1 → ((m ||| 2 ^ j).testBit i = true ↔ P i)) ∧ (¬ Q → m < 2 ^ (j + 1) ∧ ∀ i, i < j + 1 → (m.testBit i = true ↔ P i)) := by
  have h1 : 2 ^ j < 2 ^ (j + 1) := Nat.pow_lt_pow_right (by decide) (Nat.lt_succ_self j)
  refine ⟨fun q => ⟨Nat.or_lt_two_pow (by omega) h1, fun i hi => ?_⟩, fun q => ⟨by omega, fun i hi => ?_⟩⟩
  · rw [Nat.testBit_or, Nat.testBit_two_pow]
    by_cases e : i = j
    · subst e
      simp [hQ.mp q]
    · have : decide (j = i) = false := decide_eq_false (by omega)
      rw [this, Bool.or_false]
      exact hb i (by omega)
  · by_cases e : i = j
    · subst e
      rw [Nat.testBit_lt_two_pow hm]
      exact ⟨fun z => absurd z (by decide), fun z => absurd (hQ.mpr z) q⟩
    · exact hb i (by omega)
/-- what the reference's bits tell -/
def RB (N : Mem) (b s : Nat) (c fr : Int32) (l : Nat) : Prop := (clm b s l ∧ ¬ c = 0 ∧ HB N l) ∨ (¬ clm b s l ∧ ¬ fr = 0 ∧ (HB N l ∨ HW N l))
end MK

