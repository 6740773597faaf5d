/-! a side, a step's sheet: laid alike -/
section LW
variable {M N M0 N0 : Mem} {f : Nat → Int32} {k k1 : Nat}
/-- what a walk looks at -/
def WI (k k1 : Nat) (up : Nat → Bool) (n : Nat) (x5 : Int32) (M N : Mem) : Prop := rd M k 6 = rd N 136 1 ∧ (0 ≤ (rd N 136 1).toInt ∧ (rd N 136 1).toInt ≤ 9) ∧ (∀ j : Nat, (j : Int) < (rd N 136 1).toInt → rd M (k1 + 1) j = rd N 136 (2 + j)) ∧ (rd N 136 0).toInt = (n : Int) ∧ (∀ b, b < n → (up b = true ↔ ((rd N 136 (11 + b) = 1 ∧ ¬ x5 = 1) ∨ (¬ rd N 136 (11 + b) = 1 ∧ ¬ x5 = 0))))
theorem WI.ks {up : Nat → Bool} {n : Nat} {x5 : Int32} {M' N' : Mem} (h : WI k k1 up n x5 M N) (hd : k1 + 8 ≤ k ∨ k + 7 ≤ k1) (hM : KS (SPl k) M M') (hN : KS SRl N N') : WI k k1 up n x5 M' N' := by
  have e : ∀ j, rd N' 136 j = rd N 136 j := fun j => hN 136 j (by unfold SRl; omega)
  obtain ⟨h1, h2, h3, h4, h5⟩ := h
  refine ⟨?_, ?_, fun j hj => ?_, ?_, fun b hb => ?_⟩
  · rw [hM k 6 (by unfold SPl; omega), e]; exact h1
  · rw [e]; exact h2
  · rw [e] at hj
    rw [hM (k1 + 1) j (by unfold SPl; omega), e]; exact h3 j hj
  · rw [e]; exact h4
  · rw [e]; exact h5 b hb
def vis (s l : Int) (j : Nat) : Prop := if s = 1 then l ≤ (j : Int) else (j : Int) ≤ l
/-- what two walks give -/
def WR (k : Nat) (s l : Int) (M N M' N' : Mem) : Prop := KS (SPl k) M M' ∧ KS SRl N N' ∧ (∀ j : Nat, (j : Int) < (rd N 136 1).toInt → (LG k M N j ∨ vis s l j) → LG k M' N' j) ∧ (∀ c j : Nat, ¬ vis s l j → rd M' c j = rd M c j) ∧ (∀ c j : Nat, 141 ≤ c ∧ c ≤ 144 → ¬ vis s l j → rd N' c j = rd N c j)
end LW

