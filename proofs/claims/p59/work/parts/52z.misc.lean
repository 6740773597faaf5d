-- 55b.dbl2.lean.txt
/-! the class's doubles: no NaN -/
theorem pX_throw {ρ : Type} {f : Bx} {R : ρ → Prop} {es : List Nat} {q : Mem × (ρ ⊕ Nat)} (h : pX f (fun _ => False) es q) : pX f R es q := by
  obtain ⟨M, r⟩ := q
  cases r with
  | inl r => exact absurd h.2 id
  | inr e => exact ⟨h.1, h.2⟩
-- 60d.part.lean.txt
/-! a part of the class and a row of the reference -/
theorem cal_cap {ρ σ β : Type} {x : Option ρ} {k : ρ → Option (Mem × σ)} {k' : Mem → σ → Option β} : cal (cap x k) k' = cap x (fun r => cal (k r) k') := by cases x <;> rfl
-- 59.pl1.lean.txt
theorem o_of {x : Int32} (h : 0 ≤ x.toInt) : x = Int32.ofNat x.toInt.toNat := i_nn (fun h => by have := i_lt.mp h; rw [Int32.toInt_zero] at this; omega)
-- 59.pl1.lean.txt
theorem f_has : ∀ a, a < 256 → ∀ k, k < 8 → ((((Int32.ofNat a >>> (Int32.ofNat k &&& 31)) &&& (1 : Int32)) = (1 : Int32)) ↔ a.testBit k = true) := by decide +kernel
-- 59.pl1.lean.txt
theorem f_or : ∀ a, a < 256 → ∀ k, k < 8 → (Int32.ofNat a ||| ((1 : Int32) <<< (Int32.ofNat k &&& 31))) = Int32.ofNat (a ||| 2 ^ k) := by decide +kernel
-- 59.pl1.lean.txt
theorem f_half : ∀ c, c < 17 → Int32.ofNat c / (2 : Int32) = Int32.ofNat (c / 2) := by decide +kernel
-- 59.pl1.lean.txt
theorem f_full : ∀ n, n < 9 → ((1 : Int32) <<< (Int32.ofNat n &&& 31)) - (1 : Int32) = Int32.ofNat (2 ^ n - 1) := by decide +kernel
-- 37.lawlayer.lean.txt
/-! the law's two worlds: the class with the law's two rows, the reference -/
def calh {ρ β : Type} (x : Option (Mem × (ρ ⊕ Nat))) (k : Mem → ρ → Option β) : Option β := match x with
  | none => none
  | some (M, .inl r) => k M r
  | some (_, .inr _) => none
-- 60.fresh.lean.txt
theorem calh_e {ρ β : Type} (M : Mem) (r : ρ) (k : Mem → ρ → Option β) : calh (some (M, .inl r)) k = k M r := rfl
-- 57.mbox.lean.txt
theorem b_cmp {a b : Int64} : ((lg_cmp a b) < 0 ↔ a.toInt < b.toInt) ∧ (0 < (lg_cmp a b) ↔ b.toInt < a.toInt) := by
  unfold lg_cmp
  have h1 : a > b ↔ b.toInt < a.toInt := Int64.lt_iff_toInt_lt
  have h3 : a = b ↔ a.toInt = b.toInt := Int64.toInt_inj.symm
  have k1 : ¬ (1 : Int32) < 0 := by decide
  have k2 : (0 : Int32) < 1 := by decide
  have k3 : ¬ (0 : Int32) < 0 := by decide
  have k4 : (-1 : Int32) < 0 := by decide
  have k5 : ¬ (0 : Int32) < -1 := by decide
  by_cases c : a > b
  · rw [if_pos c]
    have := h1.mp c
    exact ⟨⟨fun h => absurd h k1, fun h => by omega⟩, ⟨fun _ => this, fun _ => k2⟩⟩
  · rw [if_neg c]
    have := mt h1.mpr c
    by_cases c2 : a = b
    · rw [if_pos c2]
      have := h3.mp c2
      exact ⟨⟨fun h => absurd h k3, fun h => by omega⟩, ⟨fun h => absurd h k3, fun h => by omega⟩⟩
    · rw [if_neg c2]
      have := mt h3.mpr c2
      exact ⟨⟨fun _ => by omega, fun _ => k4⟩, ⟨fun h => absurd h k5, fun h => by omega⟩⟩
-- 07.layer.lean.txt
/-- the StringBuilder's array: the first, or one of the two that it grows to (34, 70); slot 0 tells which -/
def sbv (k : Nat) (v : Int32) : Nat := if v = 0 then k + 1 else if v = 1 then 154 else 155
-- 60p.frc.lean.txt
theorem sbv_5 {v : Int32} : 5 ≤ sbv 133 v := by
  unfold sbv
  split
  · omega
  · split <;> omega
