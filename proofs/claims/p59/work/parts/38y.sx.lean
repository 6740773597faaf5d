/-! safety: the value exists, with a property; integers told by toInt -/
def Sf {α : Type} (x : Option α) (P : α → Prop) : Prop := ∃ y, x = some y ∧ P y
section SX
variable {α β ρ σ : Type}
theorem Sf.ok {y : α} {P : α → Prop} (h : P y) : Sf (some y) P := ⟨y, rfl, h⟩
theorem Sf.mono {x : Option α} {P Q : α → Prop} (h : Sf x Q) (hq : ∀ y, Q y → P y) : Sf x P := by
  obtain ⟨y, e, h⟩ := h
  exact ⟨y, e, hq y h⟩
theorem Sf.b {e : α} {k : α → Option β} {P : β → Prop} (h : ∀ v, v = e → Sf (k v) P) : Sf (bnd e k) P := h e rfl
theorem Sf.k {b : Bool} {x : Option α} {P : α → Prop} (hb : b = true) (h : Sf x P) : Sf (chk b x) P := by
  subst hb; exact h
theorem Sf.i {c : Prop} [Decidable c] {a b : Option α} {P : α → Prop} (h1 : c → Sf a P) (h2 : ¬ c → Sf b P) : Sf (ite2 c a b) P := by
  unfold ite2
  by_cases hc : c
  · rw [if_pos hc]; exact h1 hc
  · rw [if_neg hc]; exact h2 hc
theorem Sf.c {x : Option ρ} {k : ρ → Option β} {Q : ρ → Prop} {P : β → Prop} (h : Sf x Q) (hk : ∀ r, Q r → Sf (k r) P) : Sf (cap x k) P := by
  obtain ⟨r, e, h⟩ := h
  subst e; exact hk r h
theorem Sf.m {x : Option (Mem × ρ)} {k : Mem → ρ → Option β} {Q : Mem × ρ → Prop} {P : β → Prop} (h : Sf x Q) (hk : ∀ M r, Q (M, r) → Sf (k M r) P) : Sf (cal x k) P := by
  obtain ⟨⟨M, r⟩, e, h⟩ := h
  subst e; exact hk M r h
theorem Sf.x {x : Option (Mem × (ρ ⊕ Nat))} {k : Mem → ρ → Option (Mem × (σ ⊕ Nat))} {Q : Mem × (ρ ⊕ Nat) → Prop} {P : Mem × (σ ⊕ Nat) → Prop} (h : Sf x Q) (hk : ∀ M r, Q (M, .inl r) → Sf (k M r) P) (hx : ∀ M e, Q (M, .inr e) → P (M, .inr e)) : Sf (calx x k) P := by
  obtain ⟨⟨M, r⟩, e, h⟩ := h
  subst e
  cases r with
  | inl r => exact hk M r h
  | inr e => exact ⟨(M, .inr e), rfl, hx M e h⟩
theorem Sf.t {x : Option (Mem × (ρ ⊕ Nat))} {k : Mem → ρ → Option β} {g : Mem → Nat → Option β} {Q : Mem × (ρ ⊕ Nat) → Prop} {P : β → Prop} (h : Sf x Q) (hk : ∀ M r, Q (M, .inl r) → Sf (k M r) P) (hx : ∀ M e, Q (M, .inr e) → Sf (g M e) P) : Sf (calt x k g) P := by
  obtain ⟨⟨M, r⟩, e, h⟩ := h
  subst e
  cases r with
  | inl r => exact hk M r h
  | inr e => exact hx M e h
theorem Sf.o {r : Option Nat} {a : Option β} {b : Nat → Option β} {P : β → Prop} (h1 : r = none → Sf a P) (h2 : ∀ w, r = some w → Sf (b w) P) : Sf (opt r a b) P := by
  cases r with
  | none => exact h1 rfl
  | some w => exact h2 w rfl
end SX
/-! integers -/
theorem i_rng (x : Int32) : -2147483648 ≤ x.toInt ∧ x.toInt ≤ 2147483647 := by
  have h1 := Int32.toInt_lt x
  have h2 := Int32.le_toInt x
  omega
theorem i_bm {z : Int} (h1 : -2147483648 ≤ z) (h2 : z ≤ 2147483647) : z.bmod (2 ^ 32) = z := Int.bmod_eq_of_le (by omega) (by omega)
theorem i_add {a b : Int32} (h1 : -2147483648 ≤ a.toInt + b.toInt) (h2 : a.toInt + b.toInt ≤ 2147483647) : (a + b).toInt = a.toInt + b.toInt := by
  rw [Int32.toInt_add]; exact i_bm h1 h2
theorem i_sub {a b : Int32} (h1 : -2147483648 ≤ a.toInt - b.toInt) (h2 : a.toInt - b.toInt ≤ 2147483647) : (a - b).toInt = a.toInt - b.toInt := by
  rw [Int32.toInt_sub]; exact i_bm h1 h2
theorem i_mul {a b : Int32} {z : Int} (hz : a.toInt * b.toInt = z) (h1 : -2147483648 ≤ z) (h2 : z ≤ 2147483647) : (a * b).toInt = z := by
  rw [Int32.toInt_mul, hz]; exact i_bm h1 h2
theorem i_mulc {a b : Int32} {c : Int} (hc : a.toInt = c) (h1 : -2147483648 ≤ c * b.toInt) (h2 : c * b.toInt ≤ 2147483647) : (a * b).toInt = c * b.toInt := by
  rw [Int32.toInt_mul, hc]; exact i_bm h1 h2
theorem i_mulr {a b : Int32} {c : Int} (hc : b.toInt = c) (h1 : -2147483648 ≤ a.toInt * c) (h2 : a.toInt * c ≤ 2147483647) : (a * b).toInt = a.toInt * c := by
  rw [Int32.toInt_mul, hc]; exact i_bm h1 h2
theorem i_neg {a : Int32} (h1 : -2147483647 ≤ a.toInt) : (-a).toInt = -a.toInt := by
  rw [Int32.toInt_neg]; exact i_bm (by have := i_rng a; omega) (by omega)
theorem i_le {a b : Int32} : a ≤ b ↔ a.toInt ≤ b.toInt := Int32.le_iff_toInt_le
theorem i_lt {a b : Int32} : a < b ↔ a.toInt < b.toInt := Int32.lt_iff_toInt_lt
theorem i_eq {a b : Int32} : a = b ↔ a.toInt = b.toInt := Int32.toInt_inj.symm
theorem i_nle {a b : Int32} (h : ¬ a ≤ b) : b.toInt < a.toInt := by have := mt i_le.mpr h; omega
theorem i_nlt {a b : Int32} (h : ¬ a < b) : b.toInt ≤ a.toInt := by have := mt i_lt.mpr h; omega
theorem i_ne {a b : Int32} (h : ¬ a = b) : ¬ a.toInt = b.toInt := mt i_eq.mpr h
theorem i_clamp {x : Int32} : x.toNatClampNeg = x.toInt.toNat := rfl
theorem ok_in {i : Int32} {n : Nat} (h0 : 0 ≤ i.toInt) (h1 : i.toInt < (n : Int)) : okb i n = true := by
  unfold okb
  rw [Bool.and_eq_true]
  refine ⟨?_, decide_eq_true ?_⟩
  · have h : ¬ i < 0 := fun h => by have := i_lt.mp h; rw [Int32.toInt_zero] at this; omega
    rw [decide_eq_false h]; rfl
  · rw [i_clamp]; omega
theorem i_tb (x : Int32) : x.toInt = x.toBitVec.toInt := rfl
theorem i_nn2 {x : Int32} (h : 0 ≤ x.toInt) : x.toInt = (x.toBitVec.toNat : Int) := by
  have h1 := BitVec.toInt_eq_toNat_cond x.toBitVec
  rw [i_tb] at h ⊢
  split at h1
  · exact h1
  · have := x.toBitVec.isLt
    omega
theorem i_lo {x : Int32} (h : x.toBitVec.toNat < 2 ^ 31) : x.toInt = (x.toBitVec.toNat : Int) := by
  have h1 := BitVec.toInt_eq_toNat_cond x.toBitVec
  rw [i_tb]
  split at h1
  · exact h1
  · omega
theorem i_and {a b : Int32} (ha : 0 ≤ a.toInt) : 0 ≤ (a &&& b).toInt ∧ (a &&& b).toInt ≤ a.toInt := by
  have h1 := i_nn2 ha
  have e : (a &&& b).toBitVec.toNat = a.toBitVec.toNat &&& b.toBitVec.toNat := BitVec.toNat_and ..
  have h2 : (a &&& b).toBitVec.toNat ≤ a.toBitVec.toNat := by rw [e]; exact Nat.and_le_left
  have h3 := i_rng a
  have h4 := i_lo (x := a &&& b) (by omega)
  omega
theorem i_andr {a b : Int32} (hb : 0 ≤ b.toInt) : 0 ≤ (a &&& b).toInt ∧ (a &&& b).toInt ≤ b.toInt := by
  have h1 := i_nn2 hb
  have e : (a &&& b).toBitVec.toNat = a.toBitVec.toNat &&& b.toBitVec.toNat := BitVec.toNat_and ..
  have h2 : (a &&& b).toBitVec.toNat ≤ b.toBitVec.toNat := by rw [e]; exact Nat.and_le_right
  have h3 := i_rng b
  have h4 := i_lo (x := a &&& b) (by omega)
  omega
theorem i_or {a b : Int32} (n : Nat) (hn : n ≤ 31) (ha : 0 ≤ a.toInt ∧ a.toInt < 2 ^ n) (hb : 0 ≤ b.toInt ∧ b.toInt < 2 ^ n) : 0 ≤ (a ||| b).toInt ∧ (a ||| b).toInt < 2 ^ n := by
  have h1 := i_nn2 ha.1
  have h2 := i_nn2 hb.1
  have e : (a ||| b).toBitVec.toNat = a.toBitVec.toNat ||| b.toBitVec.toNat := BitVec.toNat_or ..
  have q1 : a.toBitVec.toNat < 2 ^ n := by have := ha.2; rw [h1] at this; exact_mod_cast this
  have q2 : b.toBitVec.toNat < 2 ^ n := by have := hb.2; rw [h2] at this; exact_mod_cast this
  have h3 : (a ||| b).toBitVec.toNat < 2 ^ n := by rw [e]; exact Nat.or_lt_two_pow q1 q2
  have h5 : 2 ^ n ≤ 2 ^ 31 := Nat.pow_le_pow_right (by decide) hn
  have h4 := i_lo (x := a ||| b) (by omega)
  rw [h4]
  exact ⟨Int.natCast_nonneg _, by exact_mod_cast h3⟩
theorem i_xor {a b : Int32} (n : Nat) (hn : n ≤ 31) (ha : 0 ≤ a.toInt ∧ a.toInt < 2 ^ n) (hb : 0 ≤ b.toInt ∧ b.toInt < 2 ^ n) : 0 ≤ (a ^^^ b).toInt ∧ (a ^^^ b).toInt < 2 ^ n := by
  have h1 := i_nn2 ha.1
  have h2 := i_nn2 hb.1
  have e : (a ^^^ b).toBitVec.toNat = a.toBitVec.toNat ^^^ b.toBitVec.toNat := BitVec.toNat_xor ..
  have q1 : a.toBitVec.toNat < 2 ^ n := by have := ha.2; rw [h1] at this; exact_mod_cast this
  have q2 : b.toBitVec.toNat < 2 ^ n := by have := hb.2; rw [h2] at this; exact_mod_cast this
  have h3 : (a ^^^ b).toBitVec.toNat < 2 ^ n := by rw [e]; exact Nat.xor_lt_two_pow q1 q2
  have h5 : 2 ^ n ≤ 2 ^ 31 := Nat.pow_le_pow_right (by decide) hn
  have h4 := i_lo (x := a ^^^ b) (by omega)
  rw [h4]
  exact ⟨Int.natCast_nonneg _, by exact_mod_cast h3⟩
theorem i_div {a b : Int32} (ha : 0 ≤ a.toInt) (hb : 0 < b.toInt) : (a / b).toInt = a.toInt / b.toInt := by
  have h : b ≠ -1 := fun e => by rw [e] at hb; exact absurd hb (by decide)
  rw [Int32.toInt_div_of_ne_right _ _ h, Int.tdiv_eq_ediv_of_nonneg ha]
theorem i_shr1 {a : Int32} : (a >>> ((1 : Int32) &&& 31)).toInt = a.toInt / 2 := by
  have e : (a >>> ((1 : Int32) &&& 31)).toBitVec = a.toBitVec.sshiftRight 1 := rfl
  rw [i_tb, e, BitVec.toInt_sshiftRight, ← i_tb]
  exact Int.shiftRight_eq_div_pow _ _
theorem i_shr {a b : Int32} (ha : 0 ≤ a.toInt) : 0 ≤ (a >>> (b &&& 31)).toInt ∧ (a >>> (b &&& 31)).toInt ≤ a.toInt := by
  have e : (a >>> (b &&& 31)).toBitVec = a.toBitVec.sshiftRight' ((b &&& 31).toBitVec.smod 32) := rfl
  rw [i_tb (a >>> (b &&& 31)), e]
  show 0 ≤ (a.toBitVec.sshiftRight ((b &&& 31).toBitVec.smod 32).toNat).toInt ∧ (a.toBitVec.sshiftRight ((b &&& 31).toBitVec.smod 32).toNat).toInt ≤ _
  rw [BitVec.toInt_sshiftRight, ← i_tb, Int.shiftRight_eq_div_pow]
  have hp : (0 : Int) < ((2 ^ ((b &&& 31).toBitVec.smod 32).toNat : Nat) : Int) := by exact_mod_cast Nat.two_pow_pos _
  exact ⟨Int.ediv_nonneg ha (Int.le_of_lt hp), Int.ediv_le_self _ ha⟩
theorem i_shl1 : ∀ k, k < 31 → ((1 : Int32) <<< (Int32.ofNat k &&& 31)).toInt = 2 ^ k := by decide
theorem i_shl {b : Int32} (n : Nat) (hn : n < 31) (hb : 0 ≤ b.toInt ∧ b.toInt ≤ n) : 0 < ((1 : Int32) <<< (b &&& 31)).toInt ∧ ((1 : Int32) <<< (b &&& 31)).toInt ≤ 2 ^ n := by
  have e : b = Int32.ofNat b.toInt.toNat := i_nn (fun h => by have := i_lt.mp h; rw [Int32.toInt_zero] at this; omega)
  have h := i_shl1 b.toInt.toNat (by omega)
  rw [← e] at h
  rw [h]
  have h9 : (2 : Int) ^ b.toInt.toNat = ((2 ^ b.toInt.toNat : Nat) : Int) := by norm_cast
  have h8 : (2 : Int) ^ n = ((2 ^ n : Nat) : Int) := by norm_cast
  rw [h9, h8]
  exact ⟨by exact_mod_cast Nat.two_pow_pos _, by exact_mod_cast Nat.pow_le_pow_right (by decide) (by omega)⟩
theorem i_max {a b : Int32} : (imax a b).toInt = max a.toInt b.toInt := by
  unfold imax
  split
  · have := i_lt.mp ‹_›; omega
  · have := i_nlt ‹_›; omega
theorem i_min {a b : Int32} : (imin a b).toInt = min a.toInt b.toInt := by
  unfold imin
  split
  · have := i_lt.mp ‹_›; omega
  · have := i_nlt ‹_›; omega
theorem rd_wk {M : Mem} {k j k' j' : Nat} {v : Int32} (h : k' ≠ k) : rd (wr M k j v) k' j' = rd M k' j' := by
  show (if k' = k then upd (M.1 k) j v else M.1 k') j' = _
  rw [if_neg h]; rfl
theorem rd_wj {M : Mem} {k j k' j' : Nat} {v : Int32} (h : j' ≠ j) : rd (wr M k j v) k' j' = rd M k' j' := by
  show (if k' = k then upd (M.1 k) j v else M.1 k') j' = M.1 k' j'
  by_cases e : k' = k
  · rw [if_pos e, e]; exact if_neg h
  · rw [if_neg e]
theorem rd_we {M : Mem} {k j : Nat} {v : Int32} : rd (wr M k j v) k j = v := by
  show (if k = k then upd (M.1 k) j v else M.1 k) j = v
  rw [if_pos rfl]; exact if_pos rfl
