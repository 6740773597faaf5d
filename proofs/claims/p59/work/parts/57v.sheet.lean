/-! a step's sheet: laid alike -/
theorem f_shr1 : ∀ c, c < 17 → (Int32.ofNat c >>> ((1 : Int32) &&& 31)) = Int32.ofNat (c / 2) := by decide +kernel
theorem f_and1 : ∀ c, c < 17 → (Int32.ofNat c &&& (1 : Int32)) = Int32.ofNat (c % 2) := by decide +kernel
section SHT
variable {M N M0 N0 : Mem} {k k1 : Nat}
def SPs (k : Nat) (c j : Nat) : Prop := (k + 1 ≤ c ∧ c ≤ k + 6) ∨ (c = k ∧ 6 ≤ j ∧ j ≤ 8)
/-- a sheet laid by both: bend b, side s -/
def SH (k b s : Nat) (M N : Mem) : Prop := (∀ j : Nat, (j : Int) < (rd N 136 1).toInt → LG k M N j) ∧ rd M k 6 = rd N 136 1 ∧ (rd M k 7).toInt = (if s = 0 then 0 else (b : Int) + 1) ∧ (rd M k 8).toInt = (if s = 0 then (b : Int) else (rd N 136 1).toInt - 1)
def ShR (k b s : Nat) (M N : Mem) (p q : Mem × Unit) : Prop := SH k b s p.1 q.1 ∧ KS (SPs k) M p.1 ∧ KS SRl N q.1
theorem pc_goesUp {b : Nat} (h0 : 0 ≤ (rd M k1 2).toInt ∧ (rd M k1 2).toInt ≤ 255) (hb : b < 9) : Pc (mX1_goesUp k1 (Int32.ofNat b) M) (fun r => r = if (rd M k1 2).toInt.toNat.testBit b then 1 else 0) := by
  unfold mX1_goesUp
  have e : rd M k1 2 = Int32.ofNat (rd M k1 2).toInt.toNat := o_of h0.1
  have hf := f_has0 (rd M k1 2).toInt.toNat (by omega) b hb
  rw [← e] at hf
  refine Pc.i (fun c => Pc.ok ?_) (fun c => Pc.ok ?_)
  · rw [hf.mp c]; rfl
  · cases q : (rd M k1 2).toInt.toNat.testBit b with
    | true => rfl
    | false => exact absurd (hf.mpr q) c
theorem WI.pl {up : Nat → Bool} {n : Nat} {x5 : Int32} {M M' N : Mem} (hd8 : k1 + 8 ≤ k) (hn : (rd N 136 0).toInt = (n : Int)) (l1 : (rd N 136 1).toInt = (n : Int) + 1) (n8 : n ≤ 8) (hleg : ∀ j : Nat, (j : Int) < (rd N 136 1).toInt → rd M (k1 + 1) j = rd N 136 (2 + j)) (hr : ∀ b', b' < n → (up b' = true ↔ ((rd N 136 (11 + b') = 1 ∧ ¬ x5 = 1) ∨ (¬ rd N 136 (11 + b') = 1 ∧ ¬ x5 = 0)))) (kM : KS (SPs k) M M') (e : rd M' k 6 = rd N 136 1) : WI k k1 up n x5 M' N := by
  refine ⟨e, by omega, fun j hj => ?_, hn, hr⟩
  rw [kM (k1 + 1) j (by unfold SPs; omega)]
  exact hleg j hj
theorem LG.of {M1 M2 N1 N2 : Mem} {j : Nat} (h1 : ∀ c, rd M2 c j = rd M1 c j) (h2 : ∀ c, 141 ≤ c ∧ c ≤ 144 → rd N2 c j = rd N1 c j) (h : LG k M1 N1 j) : LG k M2 N2 j := by
  unfold LG at h ⊢
  rw [h1, h1, h1, h1, h1, h1, h2 141 (by omega), h2 142 (by omega), h2 143 (by omega), h2 144 (by omega)]
  exact h
section SD
variable {b a n : Nat} {x5 x7 : Int32} {up : Nat → Bool}
end SD
end SHT

