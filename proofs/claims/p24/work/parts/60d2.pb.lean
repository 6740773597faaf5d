/-! what bending looks at: the legs, the ways of the bends, the tools -/
def PB (k : Nat) (M : Mem) (f : Nat → Int32) : Prop := (rd M k 0 = f 1) ∧ (0 ≤ (f 1).toInt ∧ (f 1).toInt ≤ 9) ∧ ((f 0).toInt = if (f 1).toInt = 0 then 0 else (f 1).toInt - 1) ∧ (∀ j : Nat, (j : Int) < (f 1).toInt → rd M (k + 1) j = f (2 + j)) ∧ (0 ≤ (rd M k 2).toInt ∧ (rd M k 2).toInt ≤ 255) ∧ (∀ b : Nat, (b : Int) < (f 0).toInt → (f (11 + b) = if (rd M k 2).toInt.toNat.testBit b then 1 else 0)) ∧ ((rd M k 2).toInt.toNat < 2 ^ (f 0).toInt.toNat) ∧ (∀ j : Nat, j < 10 → rd M (k + 2) j = f (39 + j))
/-- the slots of a row that bending looks at -/
def BS (j : Nat) : Prop := j < 19 ∨ (39 ≤ j ∧ j < 49)
section PBS
variable {k : Nat} {M M' : Mem} {f g : Nat → Int32}
theorem PB.lc (h : PB k M f) : rd M k 0 = f 1 := h.1
theorem PB.lb (h : PB k M f) : 0 ≤ (f 1).toInt ∧ (f 1).toInt ≤ 9 := h.2.1
theorem PB.nn (h : PB k M f) : (f 0).toInt = if (f 1).toInt = 0 then 0 else (f 1).toInt - 1 := h.2.2.1
theorem PB.leg (h : PB k M f) : ∀ j : Nat, (j : Int) < (f 1).toInt → rd M (k + 1) j = f (2 + j) := h.2.2.2.1
theorem PB.ub (h : PB k M f) : 0 ≤ (rd M k 2).toInt ∧ (rd M k 2).toInt ≤ 255 := h.2.2.2.2.1
theorem PB.up (h : PB k M f) : ∀ b : Nat, (b : Int) < (f 0).toInt → (f (11 + b) = if (rd M k 2).toInt.toNat.testBit b then 1 else 0) := h.2.2.2.2.2.1
theorem PB.uz (h : PB k M f) : (rd M k 2).toInt.toNat < 2 ^ (f 0).toInt.toNat := h.2.2.2.2.2.2.1
theorem PB.tl (h : PB k M f) : ∀ j : Nat, j < 10 → rd M (k + 2) j = f (39 + j) := h.2.2.2.2.2.2.2
theorem PR.pb (h : PR k M f) : PB k M f := ⟨h.lc, h.lb, h.nn, h.leg, h.ub, h.up, h.uz, h.tl⟩
theorem PB.n8 (h : PB k M f) : 0 ≤ (f 0).toInt ∧ (f 0).toInt ≤ 8 := by
  have h1 := h.lb; have h2 := h.nn
  split at h2 <;> omega
theorem PB.mem (h : PB k M f) (e : ∀ c j, k ≤ c → c < k + 8 → rd M' c j = rd M c j) : PB k M' f := by
  have e0 : ∀ j, rd M' k j = rd M k j := fun j => e k j (by omega) (by omega)
  refine ⟨?_, h.lb, h.nn, fun j hj => ?_, ?_, fun b hb => ?_, ?_, fun j hj => ?_⟩
  · rw [e0]; exact h.lc
  · rw [e _ _ (by omega) (by omega)]; exact h.leg j hj
  · rw [e0]; exact h.ub
  · rw [e0]; exact h.up b hb
  · rw [e0]; exact h.uz
  · rw [e _ _ (by omega) (by omega)]; exact h.tl j hj
theorem PB.ks {S : Nat → Nat → Prop} (h : PB k M f) (hk : KS S M M') (hs : ∀ c j, k ≤ c → c < k + 8 → ¬ S c j) : PB k M' f := h.mem (fun c j h1 h2 => hk c j (hs c j h1 h2))
theorem PB.congr (h : PB k M f) (e : ∀ j, BS j → g j = f j) : PB k M g := by
  have e0 : g 0 = f 0 := e 0 (Or.inl (by omega))
  have e1 : g 1 = f 1 := e 1 (Or.inl (by omega))
  have hb := h.lb
  have h8 := h.n8
  refine ⟨?_, ?_, ?_, fun j hj => ?_, h.ub, fun b hb => ?_, ?_, fun j hj => ?_⟩
  · rw [e1]; exact h.lc
  · rw [e1]; exact h.lb
  · rw [e0, e1]; exact h.nn
  · rw [e1] at hj
    rw [e _ (Or.inl (by omega))]; exact h.leg j hj
  · rw [e0] at hb
    rw [e _ (Or.inl (by omega))]; exact h.up b hb
  · rw [e0]; exact h.uz
  · rw [e _ (Or.inr (by omega))]; exact h.tl j hj
end PBS
/-! what laying looks at: the legs and the ways of the bends -/
def PG (k : Nat) (M : Mem) (f : Nat → Int32) : Prop := (rd M k 0 = f 1) ∧ (0 ≤ (f 1).toInt ∧ (f 1).toInt ≤ 9) ∧ ((f 0).toInt = if (f 1).toInt = 0 then 0 else (f 1).toInt - 1) ∧ (∀ j : Nat, (j : Int) < (f 1).toInt → rd M (k + 1) j = f (2 + j)) ∧ (0 ≤ (rd M k 2).toInt ∧ (rd M k 2).toInt ≤ 255) ∧ (∀ b : Nat, (b : Int) < (f 0).toInt → (f (11 + b) = if (rd M k 2).toInt.toNat.testBit b then 1 else 0)) ∧ ((rd M k 2).toInt.toNat < 2 ^ (f 0).toInt.toNat)
section PGS
variable {k : Nat} {M M' : Mem} {f g : Nat → Int32}
theorem PG.lc (h : PG k M f) : rd M k 0 = f 1 := h.1
theorem PG.lb (h : PG k M f) : 0 ≤ (f 1).toInt ∧ (f 1).toInt ≤ 9 := h.2.1
theorem PG.nn (h : PG k M f) : (f 0).toInt = if (f 1).toInt = 0 then 0 else (f 1).toInt - 1 := h.2.2.1
theorem PG.leg (h : PG k M f) : ∀ j : Nat, (j : Int) < (f 1).toInt → rd M (k + 1) j = f (2 + j) := h.2.2.2.1
theorem PG.ub (h : PG k M f) : 0 ≤ (rd M k 2).toInt ∧ (rd M k 2).toInt ≤ 255 := h.2.2.2.2.1
theorem PG.up (h : PG k M f) : ∀ b : Nat, (b : Int) < (f 0).toInt → (f (11 + b) = if (rd M k 2).toInt.toNat.testBit b then 1 else 0) := h.2.2.2.2.2.1
theorem PG.uz (h : PG k M f) : (rd M k 2).toInt.toNat < 2 ^ (f 0).toInt.toNat := h.2.2.2.2.2.2
theorem PB.pg (h : PB k M f) : PG k M f := ⟨h.lc, h.lb, h.nn, h.leg, h.ub, h.up, h.uz⟩
theorem PG.n8 (h : PG k M f) : 0 ≤ (f 0).toInt ∧ (f 0).toInt ≤ 8 := by
  have h1 := h.lb; have h2 := h.nn
  split at h2 <;> omega
theorem PG.congr (h : PG k M f) (e : ∀ j, j < 19 → g j = f j) : PG k M g := by
  have e0 : g 0 = f 0 := e 0 (by omega)
  have e1 : g 1 = f 1 := e 1 (by omega)
  have hb := h.lb
  have h8 := h.n8
  refine ⟨?_, ?_, ?_, fun j hj => ?_, h.ub, fun b hb => ?_, ?_⟩
  · rw [e1]; exact h.lc
  · rw [e1]; exact h.lb
  · rw [e0, e1]; exact h.nn
  · rw [e1] at hj
    rw [e _ (by omega)]; exact h.leg j hj
  · rw [e0] at hb
    rw [e _ (by omega)]; exact h.up b hb
  · rw [e0]; exact h.uz
end PGS
