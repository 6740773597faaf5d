/-! part 50.sx -/
section
/-! safety: the value exists, with a property; integers told by toInt -/
def Sf {α : Type} (x : Option α) (P : α → Prop) : Prop := ∃ y, x = some y ∧ P y
section SX
variable {α β ρ σ : Type}
theorem Sf.ok {y : α} {P : α → Prop} (h : P y) : Sf (some y) P := ⟨y, rfl, h⟩
theorem Sf.mono {x : Option α} {P Q : α → Prop} (h : Sf x Q) (hq : ∀ y, Q y → P y) : Sf x P := by
  obtain ⟨y, e, h⟩ := h
  exact ⟨y, e, hq y h⟩
theorem Sf.b {e : α} {k : α → Option β} {P : β → Prop} (h : ∀ v, v = e → Sf (k v) P) : Sf (bnd e k) P := h e rfl
theorem Sf.k {b : Bool} {x : Option α} {P : α → Prop} (hb : b = true) (h : Sf x P) : Sf (chk b x) P := by
  subst hb; exact h
theorem Sf.i {c : Prop} [Decidable c] {a b : Option α} {P : α → Prop} (h1 : c → Sf a P) (h2 : ¬ c → Sf b P) : Sf (ite2 c a b) P := by
  unfold ite2
  by_cases hc : c
  · rw [if_pos hc]; exact h1 hc
  · rw [if_neg hc]; exact h2 hc
theorem Sf.c {x : Option ρ} {k : ρ → Option β} {Q : ρ → Prop} {P : β → Prop} (h : Sf x Q) (hk : ∀ r, Q r → Sf (k r) P) : Sf (cap x k) P := by
  obtain ⟨r, e, h⟩ := h
  subst e; exact hk r h
theorem Sf.m {x : Option (Mem × ρ)} {k : Mem → ρ → Option β} {Q : Mem × ρ → Prop} {P : β → Prop} (h : Sf x Q) (hk : ∀ M r, Q (M, r) → Sf (k M r) P) : Sf (cal x k) P := by
  obtain ⟨⟨M, r⟩, e, h⟩ := h
  subst e; exact hk M r h
theorem Sf.x {x : Option (Mem × (ρ ⊕ Nat))} {k : Mem → ρ → Option (Mem × (σ ⊕ Nat))} {Q : Mem × (ρ ⊕ Nat) → Prop} {P : Mem × (σ ⊕ Nat) → Prop} (h : Sf x Q) (hk : ∀ M r, Q (M, .inl r) → Sf (k M r) P) (hx : ∀ M e, Q (M, .inr e) → P (M, .inr e)) : Sf (calx x k) P := by
  obtain ⟨⟨M, r⟩, e, h⟩ := h
  subst e
  cases r with
  | inl r => exact hk M r h
  | inr e => exact ⟨(M, .inr e), rfl, hx M e h⟩
theorem Sf.t {x : Option (Mem × (ρ ⊕ Nat))} {k : Mem → ρ → Option β} {g : Mem → Nat → Option β} {Q : Mem × (ρ ⊕ Nat) → Prop} {P : β → Prop} (h : Sf x Q) (hk : ∀ M r, Q (M, .inl r) → Sf (k M r) P) (hx : ∀ M e, Q (M, .inr e) → Sf (g M e) P) : Sf (calt x k g) P := by
  obtain ⟨⟨M, r⟩, e, h⟩ := h
  subst e
  cases r with
  | inl r => exact hk M r h
  | inr e => exact hx M e h
theorem Sf.h {x : Option (Mem × (ρ ⊕ Nat))} {k : Mem → ρ → Option β} {Q : Mem × (ρ ⊕ Nat) → Prop} {P : β → Prop} (h : Sf x Q) (hk : ∀ M r, Q (M, .inl r) → Sf (k M r) P) (hx : ∀ M e, ¬ Q (M, .inr e)) : Sf (calh x k) P := by
  obtain ⟨⟨M, r⟩, e, h⟩ := h
  subst e
  cases r with
  | inl r => exact hk M r h
  | inr e => exact absurd h (hx M e)
theorem Sf.o {r : Option Nat} {a : Option β} {b : Nat → Option β} {P : β → Prop} (h1 : r = none → Sf a P) (h2 : ∀ w, r = some w → Sf (b w) P) : Sf (opt r a b) P := by
  cases r with
  | none => exact h1 rfl
  | some w => exact h2 w rfl
end SX
/-! integers -/
theorem i_rng (x : Int32) : -2147483648 ≤ x.toInt ∧ x.toInt ≤ 2147483647 := by
  have h1 := Int32.toInt_lt x
  have h2 := Int32.le_toInt x
  omega
theorem i_bm {z : Int} (h1 : -2147483648 ≤ z) (h2 : z ≤ 2147483647) : z.bmod (2 ^ 32) = z := Int.bmod_eq_of_le (by omega) (by omega)
theorem i_add {a b : Int32} (h1 : -2147483648 ≤ a.toInt + b.toInt) (h2 : a.toInt + b.toInt ≤ 2147483647) : (a + b).toInt = a.toInt + b.toInt := by
  rw [Int32.toInt_add]; exact i_bm h1 h2
theorem i_sub {a b : Int32} (h1 : -2147483648 ≤ a.toInt - b.toInt) (h2 : a.toInt - b.toInt ≤ 2147483647) : (a - b).toInt = a.toInt - b.toInt := by
  rw [Int32.toInt_sub]; exact i_bm h1 h2
theorem i_mulc {a b : Int32} {c : Int} (hc : a.toInt = c) (h1 : -2147483648 ≤ c * b.toInt) (h2 : c * b.toInt ≤ 2147483647) : (a * b).toInt = c * b.toInt := by
  rw [Int32.toInt_mul, hc]; exact i_bm h1 h2
theorem i_mulr {a b : Int32} {c : Int} (hc : b.toInt = c) (h1 : -2147483648 ≤ a.toInt * c) (h2 : a.toInt * c ≤ 2147483647) : (a * b).toInt = a.toInt * c := by
  rw [Int32.toInt_mul, hc]; exact i_bm h1 h2
theorem i_neg {a : Int32} (h1 : -2147483647 ≤ a.toInt) : (-a).toInt = -a.toInt := by
  rw [Int32.toInt_neg]; exact i_bm (by have := i_rng a; omega) (by omega)
theorem i_le {a b : Int32} : a ≤ b ↔ a.toInt ≤ b.toInt := Int32.le_iff_toInt_le
theorem i_lt {a b : Int32} : a < b ↔ a.toInt < b.toInt := Int32.lt_iff_toInt_lt
theorem i_eq {a b : Int32} : a = b ↔ a.toInt = b.toInt := Int32.toInt_inj.symm
theorem i_nle {a b : Int32} (h : ¬ a ≤ b) : b.toInt < a.toInt := by have := mt i_le.mpr h; omega
theorem i_nlt {a b : Int32} (h : ¬ a < b) : b.toInt ≤ a.toInt := by have := mt i_lt.mpr h; omega
theorem i_ne {a b : Int32} (h : ¬ a = b) : ¬ a.toInt = b.toInt := mt i_eq.mpr h
theorem i_clamp {x : Int32} : x.toNatClampNeg = x.toInt.toNat := rfl
theorem ok_in {i : Int32} {n : Nat} (h0 : 0 ≤ i.toInt) (h1 : i.toInt < (n : Int)) : okb i n = true := by
  unfold okb
  rw [Bool.and_eq_true]
  refine ⟨?_, decide_eq_true ?_⟩
  · have h : ¬ i < 0 := fun h => by have := i_lt.mp h; rw [Int32.toInt_zero] at this; omega
    rw [decide_eq_false h]; rfl
  · rw [i_clamp]; omega
theorem i_tb (x : Int32) : x.toInt = x.toBitVec.toInt := rfl
theorem i_nn2 {x : Int32} (h : 0 ≤ x.toInt) : x.toInt = (x.toBitVec.toNat : Int) := by
  have h1 := BitVec.toInt_eq_toNat_cond x.toBitVec
  rw [i_tb] at h ⊢
  split at h1
  · exact h1
  · have := x.toBitVec.isLt
    omega
theorem i_lo {x : Int32} (h : x.toBitVec.toNat < 2 ^ 31) : x.toInt = (x.toBitVec.toNat : Int) := by
  have h1 := BitVec.toInt_eq_toNat_cond x.toBitVec
  rw [i_tb]
  split at h1
  · exact h1
  · omega
theorem i_and {a b : Int32} (ha : 0 ≤ a.toInt) : 0 ≤ (a &&& b).toInt ∧ (a &&& b).toInt ≤ a.toInt := by
  have h1 := i_nn2 ha
  have e : (a &&& b).toBitVec.toNat = a.toBitVec.toNat &&& b.toBitVec.toNat := BitVec.toNat_and ..
  have h2 : (a &&& b).toBitVec.toNat ≤ a.toBitVec.toNat := by rw [e]; exact Nat.and_le_left
  have h3 := i_rng a
  have h4 := i_lo (x := a &&& b) (by omega)
  omega
theorem i_andr {a b : Int32} (hb : 0 ≤ b.toInt) : 0 ≤ (a &&& b).toInt ∧ (a &&& b).toInt ≤ b.toInt := by
  have h1 := i_nn2 hb
  have e : (a &&& b).toBitVec.toNat = a.toBitVec.toNat &&& b.toBitVec.toNat := BitVec.toNat_and ..
  have h2 : (a &&& b).toBitVec.toNat ≤ b.toBitVec.toNat := by rw [e]; exact Nat.and_le_right
  have h3 := i_rng b
  have h4 := i_lo (x := a &&& b) (by omega)
  omega
theorem i_or {a b : Int32} (n : Nat) (hn : n ≤ 31) (ha : 0 ≤ a.toInt ∧ a.toInt < 2 ^ n) (hb : 0 ≤ b.toInt ∧ b.toInt < 2 ^ n) : 0 ≤ (a ||| b).toInt ∧ (a ||| b).toInt < 2 ^ n := by
  have h1 := i_nn2 ha.1
  have h2 := i_nn2 hb.1
  have e : (a ||| b).toBitVec.toNat = a.toBitVec.toNat ||| b.toBitVec.toNat := BitVec.toNat_or ..
  have q1 : a.toBitVec.toNat < 2 ^ n := by have := ha.2; rw [h1] at this; exact_mod_cast this
  have q2 : b.toBitVec.toNat < 2 ^ n := by have := hb.2; rw [h2] at this; exact_mod_cast this
  have h3 : (a ||| b).toBitVec.toNat < 2 ^ n := by rw [e]; exact Nat.or_lt_two_pow q1 q2
  have h5 : 2 ^ n ≤ 2 ^ 31 := Nat.pow_le_pow_right (by decide) hn
  have h4 := i_lo (x := a ||| b) (by omega)
  rw [h4]
  exact ⟨Int.natCast_nonneg _, by exact_mod_cast h3⟩
theorem i_xor {a b : Int32} (n : Nat) (hn : n ≤ 31) (ha : 0 ≤ a.toInt ∧ a.toInt < 2 ^ n) (hb : 0 ≤ b.toInt ∧ b.toInt < 2 ^ n) : 0 ≤ (a ^^^ b).toInt ∧ (a ^^^ b).toInt < 2 ^ n := by
  have h1 := i_nn2 ha.1
  have h2 := i_nn2 hb.1
  have e : (a ^^^ b).toBitVec.toNat = a.toBitVec.toNat ^^^ b.toBitVec.toNat := BitVec.toNat_xor ..
  have q1 : a.toBitVec.toNat < 2 ^ n := by have := ha.2; rw [h1] at this; exact_mod_cast this
  have q2 : b.toBitVec.toNat < 2 ^ n := by have := hb.2; rw [h2] at this; exact_mod_cast this
  have h3 : (a ^^^ b).toBitVec.toNat < 2 ^ n := by rw [e]; exact Nat.xor_lt_two_pow q1 q2
  have h5 : 2 ^ n ≤ 2 ^ 31 := Nat.pow_le_pow_right (by decide) hn
  have h4 := i_lo (x := a ^^^ b) (by omega)
  rw [h4]
  exact ⟨Int.natCast_nonneg _, by exact_mod_cast h3⟩
theorem i_div {a b : Int32} (ha : 0 ≤ a.toInt) (hb : 0 < b.toInt) : (a / b).toInt = a.toInt / b.toInt := by
  have h : b ≠ -1 := fun e => by rw [e] at hb; exact absurd hb (by decide)
  rw [Int32.toInt_div_of_ne_right _ _ h, Int.tdiv_eq_ediv_of_nonneg ha]
theorem i_shr1 {a : Int32} : (a >>> ((1 : Int32) &&& 31)).toInt = a.toInt / 2 := by
  have e : (a >>> ((1 : Int32) &&& 31)).toBitVec = a.toBitVec.sshiftRight 1 := rfl
  rw [i_tb, e, BitVec.toInt_sshiftRight, ← i_tb]
  exact Int.shiftRight_eq_div_pow _ _
theorem i_shr {a b : Int32} (ha : 0 ≤ a.toInt) : 0 ≤ (a >>> (b &&& 31)).toInt ∧ (a >>> (b &&& 31)).toInt ≤ a.toInt := by
  have e : (a >>> (b &&& 31)).toBitVec = a.toBitVec.sshiftRight' ((b &&& 31).toBitVec.smod 32) := rfl
  rw [i_tb (a >>> (b &&& 31)), e]
  show 0 ≤ (a.toBitVec.sshiftRight ((b &&& 31).toBitVec.smod 32).toNat).toInt ∧ (a.toBitVec.sshiftRight ((b &&& 31).toBitVec.smod 32).toNat).toInt ≤ _
  rw [BitVec.toInt_sshiftRight, ← i_tb, Int.shiftRight_eq_div_pow]
  have hp : (0 : Int) < ((2 ^ ((b &&& 31).toBitVec.smod 32).toNat : Nat) : Int) := by exact_mod_cast Nat.two_pow_pos _
  exact ⟨Int.ediv_nonneg ha (Int.le_of_lt hp), Int.ediv_le_self _ ha⟩
theorem i_shl1 : ∀ k, k < 31 → ((1 : Int32) <<< (Int32.ofNat k &&& 31)).toInt = 2 ^ k := by decide
theorem i_shl {b : Int32} (n : Nat) (hn : n < 31) (hb : 0 ≤ b.toInt ∧ b.toInt ≤ n) : 0 < ((1 : Int32) <<< (b &&& 31)).toInt ∧ ((1 : Int32) <<< (b &&& 31)).toInt ≤ 2 ^ n := by
  have e : b = Int32.ofNat b.toInt.toNat := i_nn (fun h => by have := i_lt.mp h; rw [Int32.toInt_zero] at this; omega)
  have h := i_shl1 b.toInt.toNat (by omega)
  rw [← e] at h
  rw [h]
  have h9 : (2 : Int) ^ b.toInt.toNat = ((2 ^ b.toInt.toNat : Nat) : Int) := by norm_cast
  have h8 : (2 : Int) ^ n = ((2 ^ n : Nat) : Int) := by norm_cast
  rw [h9, h8]
  exact ⟨by exact_mod_cast Nat.two_pow_pos _, by exact_mod_cast Nat.pow_le_pow_right (by decide) (by omega)⟩
theorem i_max {a b : Int32} : (imax a b).toInt = max a.toInt b.toInt := by
  unfold imax
  split
  · have := i_lt.mp ‹_›; omega
  · have := i_nlt ‹_›; omega
theorem i_min {a b : Int32} : (imin a b).toInt = min a.toInt b.toInt := by
  unfold imin
  split
  · have := i_lt.mp ‹_›; omega
  · have := i_nlt ‹_›; omega
theorem rd_wk {M : Mem} {k j k' j' : Nat} {v : Int32} (h : k' ≠ k) : rd (wr M k j v) k' j' = rd M k' j' := by
  show (if k' = k then upd (M.1 k) j v else M.1 k') j' = _
  rw [if_neg h]; rfl
theorem rd_wj {M : Mem} {k j k' j' : Nat} {v : Int32} (h : j' ≠ j) : rd (wr M k j v) k' j' = rd M k' j' := by
  show (if k' = k then upd (M.1 k) j v else M.1 k') j' = M.1 k' j'
  by_cases e : k' = k
  · rw [if_pos e, e]; exact if_neg h
  · rw [if_neg e]
theorem rd_we {M : Mem} {k j : Nat} {v : Int32} : rd (wr M k j v) k j = v := by
  show (if k = k then upd (M.1 k) j v else M.1 k) j = v
  rw [if_pos rfl]; exact if_pos rfl
end
/-! part 51.box -/
section
/-! the class's memory: a box for every slot (f: while a text is read) -/
abbrev bT : Int × Int := (-2147483648, 2147483647)
def bxP : Nat → Nat → Int × Int
  | 0, 0 => (0, 9)
  | 0, 2 => (0, 255)
  | 0, 7 => (0, 99)
  | 0, 8 => (0, 99)
  | 0, 9 => (0, 99)
  | 0, 10 => (0, 8)
  | 0, 13 => (0, 255)
  | 0, 14 => (0, 8)
  | 1, _ => (0, 9999)
  | 5, _ => (0, 15)
  | 7, _ => (0, 297)
  | _, _ => bT
def bxL : Nat → Nat → Int × Int
  | 0, 6 => (0, 9)
  | 0, 7 => (0, 8)
  | 0, 8 => (-1, 8)
  | _, _ => bT
def bxN0 : Nat → Int × Int
  | 3 => (-1, 8)
  | 6 => (0, 1)
  | _ => bT
def bxH : Nat → Int × Int
  | 1 => (0, 9)
  | 2 => (0, 10)
  | _ => bT
def bxR (f : Bool) : Nat → Int × Int
  | 0 => (0, 5)
  | 1 => (-1, 600)
  | 2 => if f then (1, 1) else (0, 1)
  | 3 => (0, 600)
  | 4 => (0, 600)
  | 5 => (0, 600)
  | 6 => (0, 4)
  | _ => bT
def bxB : Nat → Int × Int
  | 0 => (0, 2)
  | 1 => (0, 0)
  | 2 => (0, 1)
  | 3 => (0, 70)
  | _ => bT
abbrev Bx : Type := Bool × (Nat → Int × Int) × (Nat → Int × Int)
def bxc (f : Bx) (k j : Nat) : Int × Int :=
  if k = 0 then (if j = 1 then f.2.2 1 else bT) else if k = 1 then (-128, 127) else if k = 2 then bxR f.1 j else if k = 3 then f.2.1 j else if k < 5 then bT
  else if k < 21 then bxP ((k - 5) % 8) j else if k = 21 then bxH j else if k = 22 then bT else if k < 103 then bxP ((k - 23) % 8) j
  else if k < 110 then bxL (k - 103) j else if k = 110 then bxN0 j else if k = 111 then (0, 15) else if k < 119 then bxL (k - 112) j
  else if k < 127 then bxP (k - 119) j else if k = 127 then (-1, 2147483647) else if k = 128 then (0, 1) else if k = 129 then bT
  else if k = 130 then (0, 2147483647) else if k < 133 then bT else if k = 133 then (if j = 0 then f.2.2 0 else if j = 3 then f.2.2 2 else bxB j) else if k = 134 ∨ k = 154 ∨ k = 155 then (-128, 127) else bT
def OKb (f : Bx) (M : Mem) : Prop := ∀ k j, (bxc f k j).1 ≤ (rd M k j).toInt ∧ (rd M k j).toInt ≤ (bxc f k j).2
def isP (k : Nat) : Prop := k = 5 ∨ k = 13 ∨ k = 119 ∨ ∃ i, i < 10 ∧ k = 23 + 8 * i
def isL (k : Nat) : Prop := k = 103 ∨ k = 112
theorem isP_5 : isP 5 := Or.inl rfl
theorem isP_13 : isP 13 := Or.inr (Or.inl rfl)
theorem isP_119 : isP 119 := Or.inr (Or.inr (Or.inl rfl))
theorem isP_h {i : Nat} (h : i < 10) : isP (21 + 1 + 1 + 8 * i) := Or.inr (Or.inr (Or.inr ⟨i, h, by omega⟩))
theorem isL_103 : isL 103 := Or.inl rfl
theorem isL_112 : isL 112 := Or.inr rfl
section BX
variable {f : Bx} {k c j : Nat} {M : Mem} {v : Int32} {b : Int × Int}
theorem bx_P (h : isP k) (hc : c < 8) : bxc f (k + c) j = bxP c j := by
  unfold bxc
  rcases h with rfl | rfl | rfl | ⟨i, hi, rfl⟩
  all_goals
    repeat rw [if_neg (by omega)]
    rw [if_pos (by omega)]
    congr 1
    omega
theorem bx_L (h : isL k) (hc : c < 7) : bxc f (k + c) j = bxL c j := by
  unfold bxc
  rcases h with rfl | rfl
  all_goals
    repeat rw [if_neg (by omega)]
    rw [if_pos (by omega)]
    congr 1
    omega
theorem bx_P0 (h : isP k) : bxc f k j = bxP 0 j := bx_P (c := 0) h (by omega)
theorem bx_L0 (h : isL k) : bxc f k j = bxL 0 j := bx_L (c := 0) h (by omega)
theorem OKb.at (h : OKb f M) (hb : bxc f k j = b) : b.1 ≤ (rd M k j).toInt ∧ (rd M k j).toInt ≤ b.2 := by
  subst hb; exact h k j
theorem OKb.put (h : OKb f M) (hb : bxc f k j = b) (hv : b.1 ≤ v.toInt ∧ v.toInt ≤ b.2) : OKb f (wr M k j v) := by
  subst hb
  intro k' j'
  by_cases e : k' = k
  · subst e
    by_cases e2 : j' = j
    · subst e2; rw [rd_we]; exact hv
    · rw [rd_wj e2]; exact h k' j'
  · rw [rd_wk e]; exact h k' j'
theorem OKb.cp {k2 n : Nat} (h : OKb f M) (hb : ∀ j, bxc f k j = bxc f k2 j) : OKb f (cpy M k k2 0 0 n) := by
  intro k' j'
  by_cases e : k' = k2
  · subst e
    show (bxc f k' j').1 ≤ ((cpy M k k' 0 0 n).1 k' j').toInt ∧ ((cpy M k k' 0 0 n).1 k' j').toInt ≤ (bxc f k' j').2
    rw [cpy_s]
    unfold va_cpy
    split
    · have := h k j'
      rw [hb] at this
      have e9 : 0 + (j' - 0) = j' := by omega
      rw [e9]; exact this
    · exact h k' j'
  · have e8 : rd (cpy M k k2 0 0 n) k' j' = rd M k' j' := congrFun (cpy_o (M := M) (a := k) (sp := 0) (dp := 0) (n := n) k' e).1 j'
    rw [e8]
    exact h k' j'
theorem OKb.pl (h : OKb f M) {q : Int64} : OKb f (wl M k j q) := h
theorem OKb.pd (h : OKb f M) {q : UInt64} : OKb f (wd M k j q) := h
end BX
end
/-! part 52.posts -/
section
/-! what is told of a method's answer -/
abbrev pI (lo hi : Int) (r : Int32) : Prop := lo ≤ r.toInt ∧ r.toInt ≤ hi
def pD (_ : UInt64) : Prop := True
def pL (_ : Int64) : Prop := True
def pM {ρ : Type} (f : Bx) (q : Mem × ρ) : Prop := OKb f q.1
def pMI (f : Bx) (lo hi : Int) (q : Mem × Int32) : Prop := OKb f q.1 ∧ lo ≤ q.2.toInt ∧ q.2.toInt ≤ hi
def pX {ρ : Type} (f : Bx) (R : ρ → Prop) (es : List Nat) (q : Mem × (ρ ⊕ Nat)) : Prop := OKb f q.1 ∧ match q.2 with
  | .inl r => R r
  | .inr e => e ∈ es
abbrev rT {ρ : Type} (_ : ρ) : Prop := True
abbrev rI (lo hi : Int) (r : Int32) : Prop := lo ≤ r.toInt ∧ r.toInt ≤ hi
theorem mem_sub {as bs : List Nat} (h : ∀ a ∈ as, a ∈ bs) {e : Nat} (he : e ∈ as) : e ∈ bs := h e he
theorem isB_in {r : Int32} (h : 0 ≤ r.toInt ∧ r.toInt ≤ 1) : isB r = true := by
  have h2 : r.toInt = 0 ∨ r.toInt = 1 := by omega
  rcases h2 with h2 | h2
  · rw [i_eq.mpr (h2.trans rfl : r.toInt = (0 : Int32).toInt)]; rfl
  · rw [i_eq.mpr (h2.trans rfl : r.toInt = (1 : Int32).toInt)]; rfl
theorem wF0_b (w : Nat) : 0 ≤ (wF0.getD w 0).toInt ∧ (wF0.getD w 0).toInt ≤ 1 := by
  by_cases h : w < 11
  · have key : ∀ w, w < 11 → 0 ≤ (wF0.getD w 0).toInt ∧ (wF0.getD w 0).toInt ≤ 1 := by decide
    exact key w h
  · rw [List.getD_eq_getElem?_getD, List.getElem?_eq_none (by show 11 ≤ w; omega)]; decide
theorem wF1_b (w : Nat) : 0 ≤ (wF1.getD w 0).toInt ∧ (wF1.getD w 0).toInt ≤ 9999 := by
  by_cases h : w < 11
  · have key : ∀ w, w < 11 → 0 ≤ (wF1.getD w 0).toInt ∧ (wF1.getD w 0).toInt ≤ 9999 := by decide
    exact key w h
  · rw [List.getD_eq_getElem?_getD, List.getElem?_eq_none (by show 11 ≤ w; omega)]; decide
theorem wF2_b (w : Nat) : 0 ≤ (wF2.getD w 0).toInt ∧ (wF2.getD w 0).toInt ≤ 9999 := by
  by_cases h : w < 11
  · have key : ∀ w, w < 11 → 0 ≤ (wF2.getD w 0).toInt ∧ (wF2.getD w 0).toInt ≤ 9999 := by decide
    exact key w h
  · rw [List.getD_eq_getElem?_getD, List.getElem?_eq_none (by show 11 ≤ w; omega)]; decide
theorem wF3_b (w : Nat) : 0 ≤ (wF3.getD w 0).toInt ∧ (wF3.getD w 0).toInt ≤ 100 := by
  by_cases h : w < 11
  · have key : ∀ w, w < 11 → 0 ≤ (wF3.getD w 0).toInt ∧ (wF3.getD w 0).toInt ≤ 100 := by decide
    exact key w h
  · rw [List.getD_eq_getElem?_getD, List.getElem?_eq_none (by show 11 ≤ w; omega)]; decide
theorem bx_out {f f' : Bx} {k j : Nat} (h2 : f.2 = f'.2) (h : k ≠ 2 ∨ j ≠ 2) : bxc f k j = bxc f' k j := by
  unfold bxc
  by_cases e : k = 2
  · subst e
    have hj : j ≠ 2 := h.resolve_left (fun q => q rfl)
    simp only [show ¬ (2 : Nat) = 0 by omega, show ¬ (2 : Nat) = 1 by omega, if_false, if_true]
    unfold bxR
    split <;> first | rfl | (exact absurd rfl hj)
  · simp only [e, if_false, h2]
theorem OKb.read {f : Bx} {M : Mem} {v : Int32} (h : OKb f M) (hv : v = 1) : OKb (true, f.2) (wr M 2 2 v) := by
  subst hv
  intro k j
  by_cases e : k = 2 ∧ j = 2
  · obtain ⟨rfl, rfl⟩ := e
    rw [rd_we]
    show (1 : Int) ≤ ((1 : Int32)).toInt ∧ ((1 : Int32)).toInt ≤ (1 : Int)
    decide
  · have h2 : k ≠ 2 ∨ j ≠ 2 := by omega
    have e1 : rd (wr M 2 2 1) k j = rd M k j := by
      rcases h2 with h2 | h2
      · exact rd_wk h2
      · exact rd_wj h2
    rw [e1, bx_out (f := (true, f.2)) (f' := f) rfl h2]; exact h k j
theorem OKb.weak {f : Bx} {M : Mem} (h : OKb (true, f.2) M) : OKb f M := by
  intro k j
  by_cases e : k = 2 ∧ j = 2
  · obtain ⟨rfl, rfl⟩ := e
    have h1 : (1 : Int) ≤ (rd M 2 2).toInt ∧ (rd M 2 2).toInt ≤ (1 : Int) := h 2 2
    obtain ⟨b, g⟩ := f
    cases b
    · show (0 : Int) ≤ (rd M 2 2).toInt ∧ (rd M 2 2).toInt ≤ (1 : Int)
      omega
    · exact h1
  · have h2 : k ≠ 2 ∨ j ≠ 2 := by omega
    rw [bx_out (f := f) (f' := (true, f.2)) rfl h2]; exact h k j
theorem OKb.nums {b : Bool} {g g' : Nat → Int × Int} {s : Nat → Int × Int} {M : Mem} (h : OKb (b, g, s) M) (hg : ∀ j, (g' j).1 ≤ (rd M 3 j).toInt ∧ (rd M 3 j).toInt ≤ (g' j).2) : OKb (b, g', s) M := by
  intro k j
  by_cases e : k = 3
  · subst e; exact hg j
  · have e2 : bxc (b, g', s) k j = bxc (b, g, s) k j := by
      unfold bxc
      simp only [e, if_false]
    rw [e2]; exact h k j
theorem isP_21 {k c : Nat} (h : isP k) (hc : c < 8) : 21 ≠ k + c := by
  rcases h with rfl | rfl | rfl | ⟨i, hi, rfl⟩ <;> omega
theorem isP_21z {k : Nat} (h : isP k) : 21 ≠ k := isP_21 (c := 0) h (by omega)
theorem nar_boolean {x : Int32} : 0 ≤ (vp_nar .boolean x).toInt ∧ (vp_nar .boolean x).toInt ≤ 1 := by
  have e : vp_nar .boolean x = x &&& 1 := rfl
  have h := i_andr (a := x) (b := 1) (by decide)
  rw [show ((1 : Int32)).toInt = 1 from rfl] at h
  rw [e]; exact h
theorem nar_byte {x : Int32} : -128 ≤ (vp_nar .byte x).toInt ∧ (vp_nar .byte x).toInt ≤ 127 := by
  have e : vp_nar .byte x = x.toInt8.toInt32 := rfl
  have h1 := Int8.toInt_lt x.toInt8
  have h2 := Int8.le_toInt x.toInt8
  rw [e, Int8.toInt_toInt32]
  omega
end
/-! part 52b.hand -/
section
/-! by hand: words, their texts -/
theorem of_rel {r : Option Nat} {w : Nat} {z : Int} (h : r = none ∨ ∃ v, r = some v ∧ 5 ≤ v ∧ v ≤ 9 ∧ (v : Int) = 5 + z) (c : r = some w) : 5 ≤ w ∧ w ≤ 9 ∧ (w : Int) = 5 + z := by
  rcases h with h | ⟨v, h, h1⟩
  · rw [h] at c; cases c
  · rw [h] at c; cases c; exact h1
def alo (k : Nat) (x : Int32) : Int := if x = 0 then (wF0.getD k 0).toInt else 0
def ahi (k : Nat) (x : Int32) : Int := if x = 0 then (wF1.getD k 0).toInt else if x = 1 then (wF2.getD k 0).toInt else (wF3.getD k 0).toInt
def pA (k : Nat) (x v : Int32) (r : Int32) : Prop := (0 ≤ r.toInt ∧ r.toInt ≤ 1) ∧ (r.toInt = 0 ∨ (alo k x ≤ v.toInt ∧ v.toInt ≤ ahi k x))
theorem sX5_allows {k : Nat} {x v : Int32} {M : Mem} : Sf (mX5_allows k x v M) (pA k x v) := by
  have z0 : Sf (some (0 : Int32)) (pA k x v) := Sf.ok ⟨by decide, Or.inl rfl⟩
  unfold mX5_allows
  refine Sf.i (fun c => ?_) (fun c => ?_)
  · refine Sf.i (fun _ => z0) (fun c2 => Sf.i (fun _ => z0) (fun c3 => Sf.ok ⟨by decide, Or.inr ?_⟩))
    unfold alo ahi
    rw [if_pos c, if_pos c]
    exact ⟨i_nlt c2, i_nlt c3⟩
  · refine Sf.i (fun c1 => ?_) (fun c1 => ?_)
    · refine Sf.i (fun _ => z0) (fun c2 => Sf.i (fun _ => z0) (fun c3 => Sf.ok ⟨by decide, Or.inr ?_⟩))
      unfold alo ahi
      rw [if_neg c, if_neg c, if_pos c1]
      exact ⟨i_nlt c2, i_nlt c3⟩
    · refine Sf.i (fun _ => z0) (fun c2 => Sf.i (fun _ => z0) (fun c3 => Sf.ok ⟨by decide, Or.inr ?_⟩))
      unfold alo ahi
      rw [if_neg c, if_neg c, if_neg c1]
      exact ⟨i_nlt c2, i_nlt c3⟩
theorem sX5_allowsBehind {k : Nat} {x1 x2 x3 : Int32} {M : Mem} : Sf (mX5_allowsBehind k x1 x2 x3 M) (pI 0 1) := by
  unfold mX5_allowsBehind
  have z0 : Sf (some (0 : Int32)) (pI 0 1) := Sf.ok (by decide)
  have z1 : Sf (mX5_allowsBehind_b21 k M) (pI 0 1) := Sf.ok (by decide)
  refine Sf.c sX5_allows (fun r _ => ?_)
  exact Sf.i (fun _ => z0) (fun _ => Sf.i (fun _ => Sf.i (fun _ => z0) (fun _ => z1)) (fun _ => z1))
theorem sX5_ofTool {x : Int32} {M : Mem} : Sf (mX5_ofTool x M) (fun r => r = none ∨ ∃ w, r = some w ∧ 5 ≤ w ∧ w ≤ 9 ∧ (w : Int) = 5 + x.toInt) := by
  unfold mX5_ofTool
  refine Sf.i (fun c => Sf.ok (Or.inr ⟨5, rfl, by omega, by omega, by rw [c]; rfl⟩)) (fun _ => ?_)
  refine Sf.i (fun c => Sf.ok (Or.inr ⟨6, rfl, by omega, by omega, by rw [c]; rfl⟩)) (fun _ => ?_)
  refine Sf.i (fun c => Sf.ok (Or.inr ⟨7, rfl, by omega, by omega, by rw [c]; rfl⟩)) (fun _ => ?_)
  refine Sf.i (fun c => Sf.ok (Or.inr ⟨8, rfl, by omega, by omega, by rw [c]; rfl⟩)) (fun _ => ?_)
  exact Sf.i (fun c => Sf.ok (Or.inr ⟨9, rfl, by omega, by omega, by rw [c]; rfl⟩)) (fun _ => Sf.ok (Or.inl rfl))
theorem sX5_numberCount {w : Nat} {M : Mem} : Sf (mX5_numberCount w M) (fun r => ((1 : Int) ≤ r.toInt ∧ r.toInt ≤ 3) ∧ ((w = 9 ∧ r.toInt = 1) ∨ (5 ≤ w ∧ w ≤ 8 ∧ r.toInt = 2) ∨ w < 5 ∨ 9 < w)) := by
  have h5 : 5 ≤ w ∧ w ≤ 9 ∨ (w < 5 ∨ 9 < w) := by omega
  rcases h5 with ⟨h1, h2⟩ | h
  · have h3 : w = 5 ∨ w = 6 ∨ w = 7 ∨ w = 8 ∨ w = 9 := by omega
    rcases h3 with rfl | rfl | rfl | rfl | rfl
    all_goals exact ⟨_, rfl, by decide⟩
  · unfold mX5_numberCount
    exact Sf.i (fun _ => Sf.i (fun _ => Sf.ok ⟨by decide, Or.inr (Or.inr h)⟩) (fun _ => Sf.ok ⟨by decide, Or.inr (Or.inr h)⟩)) (fun _ => Sf.ok ⟨by decide, Or.inr (Or.inr h)⟩)
theorem sJ0_length {k : Nat} (hk : k < 12) {M : Mem} : mJ0_length_8abf5 k M = some (Int32.ofNat (stLen k)) := by
  have key : ∀ k, k < 12 → mJ0_length_8abf5 k m0 = some (Int32.ofNat (stLen k)) := by decide +kernel
  exact key k hk
theorem sJ0_charAt {k : Nat} (hk : k < 12) {x : Int32} {M : Mem} (h0 : 0 ≤ x.toInt) (h1 : x.toInt < (stLen k : Int)) : Sf (mJ0_charAt_5068e k x M) (fun _ => True) := by
  have e : x = Int32.ofNat x.toInt.toNat := i_nn (fun h => by have := i_lt.mp h; rw [Int32.toInt_zero] at this; omega)
  have key : ∀ k, k < 12 → ∀ j, j < 8 → j < stLen k → (mJ0_charAt_5068e k (Int32.ofNat j) m0).isSome = true := by decide +kernel
  have h8 := (st_len k hk).2.2
  have h := key k hk x.toInt.toNat (by omega) (by omega)
  rw [← e] at h
  have h : (mJ0_charAt_5068e k x M).isSome = true := h
  obtain ⟨y, hy⟩ := Option.isSome_iff_exists.mp h
  exact ⟨y, hy, trivial⟩
theorem sX5_isSpelled_n {f : Bx} {k0 : Nat} (hk : k0 < 12) {M : Mem} (h_M : OKb f M) : ∀ (n : Nat) (x2 x3 x4 : Int32) (_ : 0 ≤ x2.toInt) (_ : x2.toInt + x3.toInt ≤ 600) (_ : 0 ≤ x4.toInt ∧ x4.toInt ≤ x3.toInt) (_ : x3.toInt = (stLen k0 : Int)) (_ : x3.toInt - x4.toInt < n), Sf (mX5_isSpelled_l28 k0 1 M n x2 x3 x4) (pI 0 1) := by
  intro n
  induction n with
  | zero => intro x2 x3 x4 h2 h3 h4 h5 hmu; exfalso; omega
  | succ n IH =>
    intro x2 x3 x4 h2 h3 h4 h5 hmu
    show Sf (mX5_isSpelled_b28 k0 1 M (mX5_isSpelled_l28 k0 1 M n) x2 x3 x4) _
    unfold mX5_isSpelled_b28
    refine Sf.i (fun _ => Sf.ok (by decide)) (fun c => ?_)
    have c := i_nle c
    have e1 := i_add (a := x2) (b := x4) (by omega) (by omega)
    refine Sf.k (ok_in (by omega) (by omega)) ?_
    refine Sf.c (sJ0_charAt hk h4.1 (by omega)) (fun r _ => ?_)
    refine Sf.i (fun _ => ?_) (fun _ => Sf.ok (by decide))
    refine Sf.b (fun v ev => ?_)
    have e2 := i_add (a := x4) (b := 1) (by rw [show ((1 : Int32)).toInt = 1 from rfl]; omega) (by rw [show ((1 : Int32)).toInt = 1 from rfl]; omega)
    rw [← ev, show ((1 : Int32)).toInt = 1 from rfl] at e2
    exact IH x2 x3 v h2 h3 (by omega) h5 (by omega)
theorem sX5_isSpelled {f : Bx} {k0 : Nat} (hk : k0 < 12) {x2 x3 : Int32} {M : Mem} (h_M : OKb f M) (hb : x2.toInt ≤ 600) : Sf (mX5_isSpelled k0 1 x2 x3 M) (pI 0 1) := by
  unfold mX5_isSpelled
  rw [sJ0_length hk]
  show Sf (ite2 (x3 = Int32.ofNat (stLen k0)) _ _) _
  have h8 := (st_len k0 hk).2.2
  refine Sf.i (fun c => ?_) (fun _ => Sf.ok (by decide))
  have e3 : x3.toInt = (stLen k0 : Int) := by rw [c]; exact toInt_of rfl (by omega)
  refine Sf.i (fun _ => Sf.ok (by decide)) (fun c2 => ?_)
  have c2 := i_nlt c2
  rw [Int32.toInt_zero] at c2
  have e4 := i_add (a := x2) (b := x3) (by omega) (by omega)
  refine Sf.i (fun c3 => ?_) (fun _ => Sf.ok (by decide))
  have c3 := i_le.mp c3
  rw [show ((600 : Int32)).toInt = 600 from rfl] at c3
  exact sX5_isSpelled_n hk h_M 5000 x2 x3 0 c2 (by omega) (by rw [Int32.toInt_zero]; omega) e3 (by rw [Int32.toInt_zero]; omega)
def pW (r : Option Nat) : Prop := ∀ w, r = some w → w < 11
theorem sX5_find_n {f : Bx} {M : Mem} (h_M : OKb f M) : ∀ (n : Nat) (x1 x2 x3 : Int32) (_ : x1.toInt ≤ 600) (_ : 0 ≤ x3.toInt ∧ x3.toInt ≤ 11) (_ : 11 - x3.toInt < n), Sf (mX5_find_l2 1 M n x1 x2 x3) pW := by
  intro n
  induction n with
  | zero => intro x1 x2 x3 h1 h3 hmu; exfalso; omega
  | succ n IH =>
    intro x1 x2 x3 h1 h3 hmu
    show Sf (mX5_find_b2 1 M (mX5_find_l2 1 M n) x1 x2 x3) _
    unfold mX5_find_b2
    refine Sf.i (fun _ => Sf.ok (fun w h => by cases h)) (fun c => ?_)
    have c := i_nle c
    rw [show ((11 : Int32)).toInt = 11 from rfl] at c
    refine Sf.k (ok_in (by omega) (by omega)) ?_
    refine Sf.c (sX5_isSpelled (k0 := x3.toNatClampNeg) (by rw [i_clamp]; omega) h_M h1) (fun r _ => ?_)
    refine Sf.i (fun _ => ?_) (fun _ => ?_)
    · refine Sf.b (fun v ev => ?_)
      have e2 := i_add (a := x3) (b := 1) (by rw [show ((1 : Int32)).toInt = 1 from rfl]; omega) (by rw [show ((1 : Int32)).toInt = 1 from rfl]; omega)
      rw [← ev, show ((1 : Int32)).toInt = 1 from rfl] at e2
      exact IH x1 x2 v h1 (by omega) (by omega)
    · refine Sf.k (ok_in (by omega) (by omega)) (Sf.ok (fun w h => ?_))
      cases h
      rw [i_clamp]; omega
theorem sX5_find {f : Bx} {x1 x2 : Int32} {M : Mem} (h_M : OKb f M) (h1 : x1.toInt ≤ 600) : Sf (mX5_find 1 x1 x2 M) pW := by
  unfold mX5_find
  exact sX5_find_n h_M 5000 x1 x2 0 h1 (by rw [Int32.toInt_zero]; omega) (by rw [Int32.toInt_zero]; omega)
end
/-! part 53.s1 -/
section
set_option maxHeartbeats 2000000 in
theorem sX1_putSheet {f : Bx} {k0 : Nat} {x1 : Int32} {x2 : Int32} {x3 : Int32} {M : Mem} (hk0 : isP k0) (h_M : OKb f M) : Sf (mX1_putSheet k0 x1 x2 x3 M) (fun q => pM f q ∧ ∀ j, rd q.1 21 j = rd M 21 j) := by
  unfold mX1_putSheet
  have g_M : ∀ j, rd M 21 j = rd M 21 j := fun _ => rfl
  refine Sf.b (fun M1 e_M1 => ?_)
  have h_M1 : OKb f M1 := by rw [e_M1]; exact h_M.put (bx_P0 hk0) (i_rng _)
  have g_M1 : ∀ j, rd M1 21 j = rd M 21 j := fun j => (show rd M1 21 j = rd M 21 j by rw [e_M1]; exact rd_wk (isP_21z hk0)).trans (g_M j)
  refine Sf.b (fun M3 e_M3 => ?_)
  have h_M3 : OKb f M3 := by rw [e_M3]; exact h_M1.put (bx_P0 hk0) (i_rng _)
  have g_M3 : ∀ j, rd M3 21 j = rd M 21 j := fun j => (show rd M3 21 j = rd M1 21 j by rw [e_M3]; exact rd_wk (isP_21z hk0)).trans (g_M1 j)
  refine Sf.b (fun M5 e_M5 => ?_)
  have h_M5 : OKb f M5 := by rw [e_M5]; exact h_M3.put (bx_P0 hk0) (i_rng _)
  have g_M5 : ∀ j, rd M5 21 j = rd M 21 j := fun j => (show rd M5 21 j = rd M3 21 j by rw [e_M5]; exact rd_wk (isP_21z hk0)).trans (g_M3 j)
  exact Sf.ok ⟨h_M5, g_M5⟩
set_option maxHeartbeats 2000000 in
theorem sX1_putTool {f : Bx} {k0 : Nat} {x1 : Int32} {x2 : Int32} {x3 : Int32} {M : Mem} (hk0 : isP k0) (h_M : OKb f M) (hx1 : (0 : Int) ≤ (x1).toInt ∧ (x1).toInt ≤ 4) : Sf (mX1_putTool k0 x1 x2 x3 M) (pM f) := by
  unfold mX1_putTool
  have n_1 : ((0 : Int32)).toInt = 0 := rfl
  refine Sf.i (fun c_2 => ?_) (fun c_2 => ?_)
  · have c_2 := i_lt.mp c_2
    exfalso; omega
  · have c_2 := i_nlt c_2
    have n_3 : ((5 : Int32)).toInt = 5 := rfl
    refine Sf.i (fun c_4 => ?_) (fun c_4 => ?_)
    · have c_4 := i_le.mp c_4
      exfalso; omega
    · have c_4 := i_nle c_4
      have n_5 : ((2 : Int32)).toInt = 2 := rfl
      try have a_6 : (((2 : Int32) * x1)).toInt = 2 * (x1).toInt := i_mulc (by omega) (by omega) (by omega)
      refine Sf.k (ok_in (by omega) (by omega)) ?_
      refine Sf.b (fun M5 e_M5 => ?_)
      have h_M5 : OKb f M5 := by rw [e_M5]; exact h_M.put (bx_P (c := 2) hk0 (by omega)) (i_rng _)
      have n_7 : ((1 : Int32)).toInt = 1 := rfl
      try have a_8 : ((((2 : Int32) * x1) + (1 : Int32))).toInt = (((2 : Int32) * x1)).toInt + ((1 : Int32)).toInt := i_add (by omega) (by omega)
      refine Sf.k (ok_in (by omega) (by omega)) ?_
      refine Sf.b (fun M8 e_M8 => ?_)
      have h_M8 : OKb f M8 := by rw [e_M8]; exact h_M5.put (bx_P (c := 2) hk0 (by omega)) (i_rng _)
      exact Sf.ok h_M8
set_option maxHeartbeats 2000000 in
theorem sX1_putCosts {f : Bx} {k0 : Nat} {x1 : Int32} {x2 : Int32} {x3 : Int32} {M : Mem} (hk0 : isP k0) (h_M : OKb f M) (hx1 : (0 : Int) ≤ (x1).toInt ∧ (x1).toInt ≤ 99) (hx2 : (0 : Int) ≤ (x2).toInt ∧ (x2).toInt ≤ 99) (hx3 : (0 : Int) ≤ (x3).toInt ∧ (x3).toInt ≤ 99) : Sf (mX1_putCosts k0 x1 x2 x3 M) (fun q => pM f q ∧ ∀ j, rd q.1 21 j = rd M 21 j) := by
  unfold mX1_putCosts
  have g_M : ∀ j, rd M 21 j = rd M 21 j := fun _ => rfl
  have z_1 : (0 : Int) ≤ (x1).toInt ∧ (x1).toInt ≤ 99 := ⟨by omega, by omega⟩
  refine Sf.b (fun M1 e_M1 => ?_)
  have h_M1 : OKb f M1 := by rw [e_M1]; exact h_M.put (bx_P0 hk0) z_1
  have g_M1 : ∀ j, rd M1 21 j = rd M 21 j := fun j => (show rd M1 21 j = rd M 21 j by rw [e_M1]; exact rd_wk (isP_21z hk0)).trans (g_M j)
  have z_2 : (0 : Int) ≤ (x2).toInt ∧ (x2).toInt ≤ 99 := ⟨by omega, by omega⟩
  refine Sf.b (fun M3 e_M3 => ?_)
  have h_M3 : OKb f M3 := by rw [e_M3]; exact h_M1.put (bx_P0 hk0) z_2
  have g_M3 : ∀ j, rd M3 21 j = rd M 21 j := fun j => (show rd M3 21 j = rd M1 21 j by rw [e_M3]; exact rd_wk (isP_21z hk0)).trans (g_M1 j)
  have z_3 : (0 : Int) ≤ (x3).toInt ∧ (x3).toInt ≤ 99 := ⟨by omega, by omega⟩
  refine Sf.b (fun M5 e_M5 => ?_)
  have h_M5 : OKb f M5 := by rw [e_M5]; exact h_M3.put (bx_P0 hk0) z_3
  have g_M5 : ∀ j, rd M5 21 j = rd M 21 j := fun j => (show rd M5 21 j = rd M3 21 j by rw [e_M5]; exact rd_wk (isP_21z hk0)).trans (g_M3 j)
  exact Sf.ok ⟨h_M5, g_M5⟩
set_option maxHeartbeats 2000000 in
theorem sX1_dropSteps {f : Bx} {k0 : Nat} {M : Mem} (hk0 : isP k0) (h_M : OKb f M) : Sf (mX1_dropSteps k0 M) (pM f) := by
  unfold mX1_dropSteps
  have n_1 : ((0 : Int32)).toInt = 0 := rfl
  have z_2 : (0 : Int) ≤ ((0 : Int32)).toInt ∧ ((0 : Int32)).toInt ≤ 255 := ⟨by omega, by omega⟩
  refine Sf.b (fun M1 e_M1 => ?_)
  have h_M1 : OKb f M1 := by rw [e_M1]; exact h_M.put (bx_P0 hk0) z_2
  have z_3 : (0 : Int) ≤ ((0 : Int32)).toInt ∧ ((0 : Int32)).toInt ≤ 8 := ⟨by omega, by omega⟩
  refine Sf.b (fun M3 e_M3 => ?_)
  have h_M3 : OKb f M3 := by rw [e_M3]; exact h_M1.put (bx_P0 hk0) z_3
  exact Sf.ok h_M3
set_option maxHeartbeats 2000000 in
theorem sX1_clear {f : Bx} {k0 : Nat} {M : Mem} (hk0 : isP k0) (h_M : OKb f M) : Sf (mX1_clear k0 M) (pM f) := by
  unfold mX1_clear
  have n_1 : ((0 : Int32)).toInt = 0 := rfl
  have z_2 : (0 : Int) ≤ ((0 : Int32)).toInt ∧ ((0 : Int32)).toInt ≤ 9 := ⟨by omega, by omega⟩
  refine Sf.b (fun M1 e_M1 => ?_)
  have h_M1 : OKb f M1 := by rw [e_M1]; exact h_M.put (bx_P0 hk0) z_2
  have z_3 : (0 : Int) ≤ ((0 : Int32)).toInt ∧ ((0 : Int32)).toInt ≤ 255 := ⟨by omega, by omega⟩
  refine Sf.b (fun M3 e_M3 => ?_)
  have h_M3 : OKb f M3 := by rw [e_M3]; exact h_M1.put (bx_P0 hk0) z_3
  have z_4 : (0 : Int) ≤ ((0 : Int32)).toInt ∧ ((0 : Int32)).toInt ≤ 8 := ⟨by omega, by omega⟩
  refine Sf.b (fun M5 e_M5 => ?_)
  have h_M5 : OKb f M5 := by rw [e_M5]; exact h_M3.put (bx_P0 hk0) z_4
  refine Sf.m (sX1_putSheet hk0 h_M5) (fun M9 _ p_5 => ?_)
  have h_M9 : OKb f M9 := p_5.1
  have gq_M9 : ∀ j, rd M9 21 j = rd M5 21 j := p_5.2
  refine Sf.m (sX1_putTool hk0 h_M9 ⟨by omega, by omega⟩) (fun M12 _ h_M12 => ?_)
  have h_M12 : OKb f M12 := h_M12
  have n_7 : ((1 : Int32)).toInt = 1 := rfl
  refine Sf.m (sX1_putTool hk0 h_M12 ⟨by omega, by omega⟩) (fun M15 _ h_M15 => ?_)
  have h_M15 : OKb f M15 := h_M15
  have n_9 : ((2 : Int32)).toInt = 2 := rfl
  refine Sf.m (sX1_putTool hk0 h_M15 ⟨by omega, by omega⟩) (fun M18 _ h_M18 => ?_)
  have h_M18 : OKb f M18 := h_M18
  have n_11 : ((3 : Int32)).toInt = 3 := rfl
  refine Sf.m (sX1_putTool hk0 h_M18 ⟨by omega, by omega⟩) (fun M21 _ h_M21 => ?_)
  have h_M21 : OKb f M21 := h_M21
  have n_13 : ((4 : Int32)).toInt = 4 := rfl
  refine Sf.m (sX1_putTool hk0 h_M21 ⟨by omega, by omega⟩) (fun M24 _ h_M24 => ?_)
  have h_M24 : OKb f M24 := h_M24
  refine Sf.m (sX1_putCosts hk0 h_M24 ⟨by omega, by omega⟩ ⟨by omega, by omega⟩ ⟨by omega, by omega⟩) (fun M27 _ p_15 => ?_)
  have h_M27 : OKb f M27 := p_15.1
  have gq_M27 : ∀ j, rd M27 21 j = rd M24 21 j := p_15.2
  refine Sf.m (sX1_dropSteps hk0 h_M27) (fun M30 _ h_M30 => ?_)
  have h_M30 : OKb f M30 := h_M30
  exact Sf.ok h_M30
set_option maxHeartbeats 2000000 in
theorem sX1_copyFrom {f : Bx} {k0 : Nat} {k1 : Nat} {M : Mem} (hk0 : isP k0) (hk1 : isP k1) (h_M : OKb f M) : Sf (mX1_copyFrom k0 k1 M) (fun q => pM f q ∧ ∀ j, rd q.1 21 j = rd M 21 j) := by
  unfold mX1_copyFrom
  have g_M : ∀ j, rd M 21 j = rd M 21 j := fun _ => rfl
  have b_1 : (0 : Int) ≤ (rd M k1 0).toInt ∧ (rd M k1 0).toInt ≤ 9 := h_M.at (bx_P0 hk1)
  have z_2 : (0 : Int) ≤ ((rd M k1 0)).toInt ∧ ((rd M k1 0)).toInt ≤ 9 := ⟨by omega, by omega⟩
  refine Sf.b (fun M1 e_M1 => ?_)
  have h_M1 : OKb f M1 := by rw [e_M1]; exact h_M.put (bx_P0 hk0) z_2
  have g_M1 : ∀ j, rd M1 21 j = rd M 21 j := fun j => (show rd M1 21 j = rd M 21 j by rw [e_M1]; exact rd_wk (isP_21z hk0)).trans (g_M j)
  refine Sf.b (fun M3 e_M3 => ?_)
  have h_M3 : OKb f M3 := by rw [e_M3]; exact h_M1.cp (fun j => (bx_P (c := 1) hk1 (by omega)).trans (bx_P (c := 1) hk0 (by omega)).symm)
  have g_M3 : ∀ j, rd M3 21 j = rd M 21 j := fun j => by rw [e_M3]; exact (congrFun (cpy_o 21 (isP_21 hk0 (c := 1) (by omega))).1 j).trans (g_M1 j)
  have b_3 : (0 : Int) ≤ (rd M3 k1 2).toInt ∧ (rd M3 k1 2).toInt ≤ 255 := h_M3.at (bx_P0 hk1)
  have z_4 : (0 : Int) ≤ ((rd M3 k1 2)).toInt ∧ ((rd M3 k1 2)).toInt ≤ 255 := ⟨by omega, by omega⟩
  refine Sf.b (fun M5 e_M5 => ?_)
  have h_M5 : OKb f M5 := by rw [e_M5]; exact h_M3.put (bx_P0 hk0) z_4
  have g_M5 : ∀ j, rd M5 21 j = rd M 21 j := fun j => (show rd M5 21 j = rd M3 21 j by rw [e_M5]; exact rd_wk (isP_21z hk0)).trans (g_M3 j)
  refine Sf.m (sX1_putSheet hk0 h_M5) (fun M9 _ p_5 => ?_)
  have h_M9 : OKb f M9 := p_5.1
  have gq_M9 : ∀ j, rd M9 21 j = rd M5 21 j := p_5.2
  have g_M9 : ∀ j, rd M9 21 j = rd M 21 j := fun j => (gq_M9 j).trans (g_M5 j)
  refine Sf.b (fun M10 e_M10 => ?_)
  have h_M10 : OKb f M10 := by rw [e_M10]; exact h_M9.cp (fun j => (bx_P (c := 2) hk1 (by omega)).trans (bx_P (c := 2) hk0 (by omega)).symm)
  have g_M10 : ∀ j, rd M10 21 j = rd M 21 j := fun j => by rw [e_M10]; exact (congrFun (cpy_o 21 (isP_21 hk0 (c := 2) (by omega))).1 j).trans (g_M9 j)
  have b_6 : (0 : Int) ≤ (rd M10 k1 7).toInt ∧ (rd M10 k1 7).toInt ≤ 99 := h_M10.at (bx_P0 hk1)
  have b_7 : (0 : Int) ≤ (rd M10 k1 8).toInt ∧ (rd M10 k1 8).toInt ≤ 99 := h_M10.at (bx_P0 hk1)
  have b_8 : (0 : Int) ≤ (rd M10 k1 9).toInt ∧ (rd M10 k1 9).toInt ≤ 99 := h_M10.at (bx_P0 hk1)
  refine Sf.m (sX1_putCosts hk0 h_M10 ⟨by omega, by omega⟩ ⟨by omega, by omega⟩ ⟨by omega, by omega⟩) (fun M14 _ p_9 => ?_)
  have h_M14 : OKb f M14 := p_9.1
  have gq_M14 : ∀ j, rd M14 21 j = rd M10 21 j := p_9.2
  have g_M14 : ∀ j, rd M14 21 j = rd M 21 j := fun j => (gq_M14 j).trans (g_M10 j)
  have b_10 : (0 : Int) ≤ (rd M14 k1 10).toInt ∧ (rd M14 k1 10).toInt ≤ 8 := h_M14.at (bx_P0 hk1)
  have z_11 : (0 : Int) ≤ ((rd M14 k1 10)).toInt ∧ ((rd M14 k1 10)).toInt ≤ 8 := ⟨by omega, by omega⟩
  refine Sf.b (fun M15 e_M15 => ?_)
  have h_M15 : OKb f M15 := by rw [e_M15]; exact h_M14.put (bx_P0 hk0) z_11
  have g_M15 : ∀ j, rd M15 21 j = rd M 21 j := fun j => (show rd M15 21 j = rd M14 21 j by rw [e_M15]; exact rd_wk (isP_21z hk0)).trans (g_M14 j)
  refine Sf.b (fun M17 e_M17 => ?_)
  have h_M17 : OKb f M17 := by rw [e_M17]; exact h_M15.cp (fun j => (bx_P (c := 3) hk1 (by omega)).trans (bx_P (c := 3) hk0 (by omega)).symm)
  have g_M17 : ∀ j, rd M17 21 j = rd M 21 j := fun j => by rw [e_M17]; exact (congrFun (cpy_o 21 (isP_21 hk0 (c := 3) (by omega))).1 j).trans (g_M15 j)
  refine Sf.b (fun M19 e_M19 => ?_)
  have h_M19 : OKb f M19 := by rw [e_M19]; exact h_M17.cp (fun j => (bx_P (c := 4) hk1 (by omega)).trans (bx_P (c := 4) hk0 (by omega)).symm)
  have g_M19 : ∀ j, rd M19 21 j = rd M 21 j := fun j => by rw [e_M19]; exact (congrFun (cpy_o 21 (isP_21 hk0 (c := 4) (by omega))).1 j).trans (g_M17 j)
  have b_12 : (0 : Int) ≤ (rd M19 k1 13).toInt ∧ (rd M19 k1 13).toInt ≤ 255 := h_M19.at (bx_P0 hk1)
  have z_13 : (0 : Int) ≤ ((rd M19 k1 13)).toInt ∧ ((rd M19 k1 13)).toInt ≤ 255 := ⟨by omega, by omega⟩
  refine Sf.b (fun M21 e_M21 => ?_)
  have h_M21 : OKb f M21 := by rw [e_M21]; exact h_M19.put (bx_P0 hk0) z_13
  have g_M21 : ∀ j, rd M21 21 j = rd M 21 j := fun j => (show rd M21 21 j = rd M19 21 j by rw [e_M21]; exact rd_wk (isP_21z hk0)).trans (g_M19 j)
  have b_15 : (0 : Int) ≤ (rd M21 k1 14).toInt ∧ (rd M21 k1 14).toInt ≤ 8 := h_M21.at (bx_P0 hk1)
  have z_16 : (0 : Int) ≤ ((rd M21 k1 14)).toInt ∧ ((rd M21 k1 14)).toInt ≤ 8 := ⟨by omega, by omega⟩
  refine Sf.b (fun M23 e_M23 => ?_)
  have h_M23 : OKb f M23 := by rw [e_M23]; exact h_M21.put (bx_P0 hk0) z_16
  have g_M23 : ∀ j, rd M23 21 j = rd M 21 j := fun j => (show rd M23 21 j = rd M21 21 j by rw [e_M23]; exact rd_wk (isP_21z hk0)).trans (g_M21 j)
  refine Sf.b (fun M25 e_M25 => ?_)
  have h_M25 : OKb f M25 := by rw [e_M25]; exact h_M23.cp (fun j => (bx_P (c := 5) hk1 (by omega)).trans (bx_P (c := 5) hk0 (by omega)).symm)
  have g_M25 : ∀ j, rd M25 21 j = rd M 21 j := fun j => by rw [e_M25]; exact (congrFun (cpy_o 21 (isP_21 hk0 (c := 5) (by omega))).1 j).trans (g_M23 j)
  refine Sf.b (fun M27 e_M27 => ?_)
  have h_M27 : OKb f M27 := by rw [e_M27]; exact h_M25.cp (fun j => (bx_P (c := 6) hk1 (by omega)).trans (bx_P (c := 6) hk0 (by omega)).symm)
  have g_M27 : ∀ j, rd M27 21 j = rd M 21 j := fun j => by rw [e_M27]; exact (congrFun (cpy_o 21 (isP_21 hk0 (c := 6) (by omega))).1 j).trans (g_M25 j)
  refine Sf.b (fun M29 e_M29 => ?_)
  have h_M29 : OKb f M29 := by rw [e_M29]; exact h_M27.cp (fun j => (bx_P (c := 7) hk1 (by omega)).trans (bx_P (c := 7) hk0 (by omega)).symm)
  have g_M29 : ∀ j, rd M29 21 j = rd M 21 j := fun j => by rw [e_M29]; exact (congrFun (cpy_o 21 (isP_21 hk0 (c := 7) (by omega))).1 j).trans (g_M27 j)
  exact Sf.ok ⟨h_M29, g_M29⟩
set_option maxHeartbeats 2000000 in
theorem sX1_addBack {f : Bx} {k0 : Nat} {x1 : Int32} {x2 : Int32} {M : Mem} (hk0 : isP k0) (h_M : OKb f M) : Sf (mX1_addBack k0 x1 x2 M) (pM f) := by
  unfold mX1_addBack
  have n_1 : ((8 : Int32)).toInt = 8 := rfl
  have b_2 : (0 : Int) ≤ (rd M k0 10).toInt ∧ (rd M k0 10).toInt ≤ 8 := h_M.at (bx_P0 hk0)
  refine Sf.i (fun c_3 => ?_) (fun c_3 => ?_)
  · have c_3 := i_le.mp c_3
    exact Sf.ok h_M
  · have c_3 := i_nle c_3
    refine Sf.k (ok_in (by omega) (by omega)) ?_
    refine Sf.b (fun M4 e_M4 => ?_)
    have h_M4 : OKb f M4 := by rw [e_M4]; exact h_M.put (bx_P (c := 3) hk0 (by omega)) (i_rng _)
    have w_4 : (rd M4 k0 10).toInt = (rd M k0 10).toInt := by rw [e_M4, rd_wk (by omega)]
    refine Sf.k (ok_in (by omega) (by omega)) ?_
    refine Sf.b (fun M7 e_M7 => ?_)
    have h_M7 : OKb f M7 := by rw [e_M7]; exact h_M4.put (bx_P (c := 4) hk0 (by omega)) (i_rng _)
    have w_5 : (rd M7 k0 10).toInt = (rd M4 k0 10).toInt := by rw [e_M7, rd_wk (by omega)]
    have w_6 : (rd M4 k0 10).toInt = (rd M k0 10).toInt := by rw [e_M4, rd_wk (by omega)]
    have n_7 : ((1 : Int32)).toInt = 1 := rfl
    try have a_8 : (((rd M7 k0 10) + (1 : Int32))).toInt = ((rd M7 k0 10)).toInt + ((1 : Int32)).toInt := i_add (by omega) (by omega)
    have z_9 : (0 : Int) ≤ (((rd M7 k0 10) + (1 : Int32))).toInt ∧ (((rd M7 k0 10) + (1 : Int32))).toInt ≤ 8 := ⟨by omega, by omega⟩
    refine Sf.b (fun M8 e_M8 => ?_)
    have h_M8 : OKb f M8 := by rw [e_M8]; exact h_M7.put (bx_P0 hk0) z_9
    exact Sf.ok h_M8
set_option maxHeartbeats 2000000 in
theorem sX1_lastBackRatio {f : Bx} {k0 : Nat} {M : Mem} (hk0 : isP k0) (h_M : OKb f M) : Sf (mX1_lastBackRatio k0 M) (pI (-2147483648) (2147483647)) := by
  unfold mX1_lastBackRatio
  have b_1 : (0 : Int) ≤ (rd M k0 10).toInt ∧ (rd M k0 10).toInt ≤ 8 := h_M.at (bx_P0 hk0)
  have n_2 : ((0 : Int32)).toInt = 0 := rfl
  refine Sf.i (fun c_3 => ?_) (fun c_3 => ?_)
  · have c_3 := i_le.mp c_3
    exact Sf.ok (i_rng _)
  · have c_3 := i_nle c_3
    have n_4 : ((1 : Int32)).toInt = 1 := rfl
    try have a_5 : (((rd M k0 10) - (1 : Int32))).toInt = ((rd M k0 10)).toInt - ((1 : Int32)).toInt := i_sub (by omega) (by omega)
    refine Sf.k (ok_in (by omega) (by omega)) ?_
    exact Sf.ok (i_rng _)
set_option maxHeartbeats 2000000 in
theorem sX1_addLeg_b47 {f : Bx} {k0 : Nat} {M : Mem} (hk0 : isP k0) (h_M : OKb f M) (he0 : (0 : Int) ≤ (rd M k0 0).toInt ∧ (rd M k0 0).toInt ≤ 8) : Sf (mX1_addLeg_b47 k0 M) (pM f) := by
  unfold mX1_addLeg_b47
  have b_1 : (0 : Int) ≤ (rd M k0 0).toInt ∧ (rd M k0 0).toInt ≤ 9 := h_M.at (bx_P0 hk0)
  have n_2 : ((1 : Int32)).toInt = 1 := rfl
  try have a_3 : (((rd M k0 0) + (1 : Int32))).toInt = ((rd M k0 0)).toInt + ((1 : Int32)).toInt := i_add (by omega) (by omega)
  have z_4 : (0 : Int) ≤ (((rd M k0 0) + (1 : Int32))).toInt ∧ (((rd M k0 0) + (1 : Int32))).toInt ≤ 9 := ⟨by omega, by omega⟩
  refine Sf.b (fun M6 e_M6 => ?_)
  have h_M6 : OKb f M6 := by rw [e_M6]; exact h_M.put (bx_P0 hk0) z_4
  exact Sf.ok h_M6
set_option maxHeartbeats 2000000 in
theorem sX1_addLeg {f : Bx} {k0 : Nat} {x1 : Int32} {x2 : Int32} {M : Mem} (hk0 : isP k0) (h_M : OKb f M) (hx1 : (0 : Int) ≤ (x1).toInt ∧ (x1).toInt ≤ 9999) (hx2 : (0 : Int) ≤ (x2).toInt ∧ (x2).toInt ≤ 1) : Sf (mX1_addLeg k0 x1 x2 M) (pM f) := by
  unfold mX1_addLeg
  have n_1 : ((9 : Int32)).toInt = 9 := rfl
  have b_2 : (0 : Int) ≤ (rd M k0 0).toInt ∧ (rd M k0 0).toInt ≤ 9 := h_M.at (bx_P0 hk0)
  refine Sf.i (fun c_3 => ?_) (fun c_3 => ?_)
  · have c_3 := i_le.mp c_3
    exact Sf.ok h_M
  · have c_3 := i_nle c_3
    refine Sf.k (ok_in (by omega) (by omega)) ?_
    have z_4 : (0 : Int) ≤ (x1).toInt ∧ (x1).toInt ≤ 9999 := ⟨by omega, by omega⟩
    refine Sf.b (fun M4 e_M4 => ?_)
    have h_M4 : OKb f M4 := by rw [e_M4]; exact h_M.put (bx_P (c := 1) hk0 (by omega)) z_4
    have w_5 : (rd M4 k0 0).toInt = (rd M k0 0).toInt := by rw [e_M4, rd_wk (by omega)]
    have n_6 : ((0 : Int32)).toInt = 0 := rfl
    refine Sf.i (fun c_7 => ?_) (fun c_7 => ?_)
    · have c_7 := i_le.mp c_7
      exact (sX1_addLeg_b47 hk0 h_M4 ⟨by omega, by omega⟩)
    · have c_7 := i_nle c_7
      refine Sf.i (fun c_8 => ?_) (fun c_8 => ?_)
      · have c_8 := i_eq.mp c_8
        exact (sX1_addLeg_b47 hk0 h_M4 ⟨by omega, by omega⟩)
      · have c_8 := i_ne c_8
        have w_9 : (rd M4 k0 2).toInt = (rd M k0 2).toInt := by rw [e_M4, rd_wk (by omega)]
        have b_10 : (0 : Int) ≤ (rd M k0 2).toInt ∧ (rd M k0 2).toInt ≤ 255 := h_M.at (bx_P0 hk0)
        have n_11 : ((1 : Int32)).toInt = 1 := rfl
        try have a_12 : (((rd M4 k0 0) - (1 : Int32))).toInt = ((rd M4 k0 0)).toInt - ((1 : Int32)).toInt := i_sub (by omega) (by omega)
        try have a_13 : 0 < (((1 : Int32) <<< (((rd M4 k0 0) - (1 : Int32)) &&& 31))).toInt ∧ (((1 : Int32) <<< (((rd M4 k0 0) - (1 : Int32)) &&& 31))).toInt ≤ 128 := i_shl 7 (by decide) ⟨by omega, by omega⟩
        try have a_14 : 0 ≤ (((rd M4 k0 2) ||| ((1 : Int32) <<< (((rd M4 k0 0) - (1 : Int32)) &&& 31)))).toInt ∧ (((rd M4 k0 2) ||| ((1 : Int32) <<< (((rd M4 k0 0) - (1 : Int32)) &&& 31)))).toInt < 256 := i_or 8 (by decide) ⟨by omega, by omega⟩ ⟨by omega, by omega⟩
        have z_15 : (0 : Int) ≤ (((rd M4 k0 2) ||| ((1 : Int32) <<< (((rd M4 k0 0) - (1 : Int32)) &&& 31)))).toInt ∧ (((rd M4 k0 2) ||| ((1 : Int32) <<< (((rd M4 k0 0) - (1 : Int32)) &&& 31)))).toInt ≤ 255 := ⟨by omega, by omega⟩
        refine Sf.b (fun M9 e_M9 => ?_)
        have h_M9 : OKb f M9 := by rw [e_M9]; exact h_M4.put (bx_P0 hk0) z_15
        have w_16 : (rd M9 k0 0).toInt = (rd M4 k0 0).toInt := by rw [e_M9, rd_wj (by decide)]
        have w_17 : (rd M4 k0 0).toInt = (rd M k0 0).toInt := by rw [e_M4, rd_wk (by omega)]
        exact (sX1_addLeg_b47 hk0 h_M9 ⟨by omega, by omega⟩)
set_option maxHeartbeats 2000000 in
theorem sX1_bendCount {f : Bx} {k0 : Nat} {M : Mem} (hk0 : isP k0) (h_M : OKb f M) : Sf (mX1_bendCount k0 M) (pI (0) (8)) := by
  unfold mX1_bendCount
  have b_1 : (0 : Int) ≤ (rd M k0 0).toInt ∧ (rd M k0 0).toInt ≤ 9 := h_M.at (bx_P0 hk0)
  have n_2 : ((0 : Int32)).toInt = 0 := rfl
  refine Sf.i (fun c_3 => ?_) (fun c_3 => ?_)
  · have c_3 := i_le.mp c_3
    have n_4 : ((0 : Int32)).toInt = 0 := rfl
    have z_5 : (0 : Int) ≤ ((0 : Int32)).toInt ∧ ((0 : Int32)).toInt ≤ 8 := ⟨by omega, by omega⟩
    exact Sf.ok z_5
  · have c_3 := i_nle c_3
    have n_6 : ((1 : Int32)).toInt = 1 := rfl
    try have a_7 : (((rd M k0 0) - (1 : Int32))).toInt = ((rd M k0 0)).toInt - ((1 : Int32)).toInt := i_sub (by omega) (by omega)
    have z_8 : (0 : Int) ≤ (((rd M k0 0) - (1 : Int32))).toInt ∧ (((rd M k0 0) - (1 : Int32))).toInt ≤ 8 := ⟨by omega, by omega⟩
    exact Sf.ok z_8
set_option maxHeartbeats 2000000 in
theorem sX1_allBends {f : Bx} {k0 : Nat} {M : Mem} (hk0 : isP k0) (h_M : OKb f M) : Sf (mX1_allBends k0 M) (pI (0) (255)) := by
  unfold mX1_allBends
  refine Sf.c (sX1_bendCount hk0 h_M) (fun r2 p_1 => ?_)
  obtain ⟨p_1a, p_1b⟩ := p_1
  try have a_2 : 0 < (((1 : Int32) <<< (r2 &&& 31))).toInt ∧ (((1 : Int32) <<< (r2 &&& 31))).toInt ≤ 256 := i_shl 8 (by decide) ⟨by omega, by omega⟩
  have n_3 : ((1 : Int32)).toInt = 1 := rfl
  try have a_4 : ((((1 : Int32) <<< (r2 &&& 31)) - (1 : Int32))).toInt = (((1 : Int32) <<< (r2 &&& 31))).toInt - ((1 : Int32)).toInt := i_sub (by omega) (by omega)
  have z_5 : (0 : Int) ≤ ((((1 : Int32) <<< (r2 &&& 31)) - (1 : Int32))).toInt ∧ ((((1 : Int32) <<< (r2 &&& 31)) - (1 : Int32))).toInt ≤ 255 := ⟨by omega, by omega⟩
  exact Sf.ok z_5
set_option maxHeartbeats 2000000 in
theorem sX1_goesUp {f : Bx} {k0 : Nat} {x1 : Int32} {M : Mem} (hk0 : isP k0) (h_M : OKb f M) (hx1 : (-8 : Int) ≤ (x1).toInt ∧ (x1).toInt ≤ 7) : Sf (mX1_goesUp k0 x1 M) (pI (0) (1)) := by
  unfold mX1_goesUp
  have b_1 : (0 : Int) ≤ (rd M k0 2).toInt ∧ (rd M k0 2).toInt ≤ 255 := h_M.at (bx_P0 hk0)
  try have a_2 := i_shr (a := (rd M k0 2)) (b := x1) (by omega)
  have n_3 : ((1 : Int32)).toInt = 1 := rfl
  try have a_4 := i_and (a := ((rd M k0 2) >>> (x1 &&& 31))) (b := (1 : Int32)) (by omega)
  try have a_5 := i_andr (a := ((rd M k0 2) >>> (x1 &&& 31))) (b := (1 : Int32)) (by omega)
  have n_6 : ((0 : Int32)).toInt = 0 := rfl
  refine Sf.i (fun c_7 => ?_) (fun c_7 => ?_)
  · have c_7 := i_eq.mp c_7
    have n_8 : ((0 : Int32)).toInt = 0 := rfl
    have z_9 : (0 : Int) ≤ ((0 : Int32)).toInt ∧ ((0 : Int32)).toInt ≤ 1 := ⟨by omega, by omega⟩
    exact Sf.ok z_9
  · have c_7 := i_ne c_7
    have z_10 : (0 : Int) ≤ ((1 : Int32)).toInt ∧ ((1 : Int32)).toInt ≤ 1 := ⟨by omega, by omega⟩
    exact Sf.ok z_10
set_option maxHeartbeats 2000000 in
theorem sX1_sumOfLegs_b4 {f : Bx} {k0 : Nat} {M : Mem} {ih4 : Int32 → Int32 → Int32 → Option Int32} {x1 : Int32} {x2 : Int32} {x3 : Int32} {d4 : Nat} (hk0 : isP k0) (h_M : OKb f M) (hx1 : (1 : Int) ≤ (x1).toInt ∧ (x1).toInt ≤ 9) (hx3 : (0 : Int) ≤ (x3).toInt ∧ (x3).toInt ≤ 9) (hih4 : ∀ (yx1 : Int32) (yx2 : Int32) (yx3 : Int32), ((1 : Int) ≤ (yx1).toInt ∧ (yx1).toInt ≤ 9) → ((0 : Int) ≤ (yx3).toInt ∧ (yx3).toInt ≤ 9) → 9 - (yx3).toInt < d4 → Sf (ih4 yx1 yx2 yx3) (pI (-2147483648) (2147483647))) (hmu4 : 9 - (x3).toInt ≤ d4) : Sf (mX1_sumOfLegs_b4 k0 M ih4 x1 x2 x3) (pI (-2147483648) (2147483647)) := by
  unfold mX1_sumOfLegs_b4
  refine Sf.i (fun c_1 => ?_) (fun c_1 => ?_)
  · have c_1 := i_le.mp c_1
    exact Sf.ok (i_rng _)
  · have c_1 := i_nle c_1
    have n_2 : ((9 : Int32)).toInt = 9 := rfl
    refine Sf.i (fun c_3 => ?_) (fun c_3 => ?_)
    · have c_3 := i_le.mp c_3
      exfalso; omega
    · have c_3 := i_nle c_3
      refine Sf.k (ok_in (by omega) (by omega)) ?_
      have b_4 : (0 : Int) ≤ (rd M (k0 + 1) ((x3).toNatClampNeg)).toInt ∧ (rd M (k0 + 1) ((x3).toNatClampNeg)).toInt ≤ 9999 := h_M.at (bx_P (c := 1) hk0 (by omega))
      refine Sf.b (fun x2_23 e_x2_23 => ?_)
      have d_x2_23 := congrArg Int32.toInt e_x2_23
      have n_5 : ((1 : Int32)).toInt = 1 := rfl
      try have a_6 : ((x3 + (1 : Int32))).toInt = (x3).toInt + ((1 : Int32)).toInt := i_add (by omega) (by omega)
      refine Sf.b (fun x3_24 e_x3_24 => ?_)
      have d_x3_24 := congrArg Int32.toInt e_x3_24
      exact (hih4 _ _ _ ⟨by omega, by omega⟩ ⟨by omega, by omega⟩ (by omega))
theorem sX1_sumOfLegs_l4_n {f : Bx} {k0 : Nat} (hk0 : isP k0) {M : Mem}  (h_M : OKb f M)   : ∀ (n : Nat) (x1 : Int32) (x2 : Int32) (x3 : Int32) (hx1 : (1 : Int) ≤ (x1).toInt ∧ (x1).toInt ≤ 9) (hx3 : (0 : Int) ≤ (x3).toInt ∧ (x3).toInt ≤ 9)   (hmu : 9 - (x3).toInt < n), Sf (mX1_sumOfLegs_l4 k0 M n x1 x2 x3) (pI (-2147483648) (2147483647)) := by
  intro n
  induction n with
  | zero => intro x1 x2 x3 hx1 hx3 hmu; exfalso; omega
  | succ n IH => intro x1 x2 x3 hx1 hx3 hmu; exact sX1_sumOfLegs_b4 hk0 h_M hx1 hx3    IH (by omega)
theorem sX1_sumOfLegs_l4 {f : Bx} {k0 : Nat} (hk0 : isP k0) {M : Mem} {x1 : Int32} {x2 : Int32} {x3 : Int32}  (h_M : OKb f M) (hx1 : (1 : Int) ≤ (x1).toInt ∧ (x1).toInt ≤ 9) (hx3 : (0 : Int) ≤ (x3).toInt ∧ (x3).toInt ≤ 9)    (hmu : 9 - (x3).toInt < 5000) : Sf (mX1_sumOfLegs_l4 k0 M 5000 x1 x2 x3) (pI (-2147483648) (2147483647)) :=
  sX1_sumOfLegs_l4_n hk0 h_M   5000 _ _ _ hx1 hx3   hmu
set_option maxHeartbeats 2000000 in
theorem sX1_sumOfLegs {f : Bx} {k0 : Nat} {x1 : Int32} {M : Mem} (hk0 : isP k0) (h_M : OKb f M) (hx1 : (1 : Int) ≤ (x1).toInt ∧ (x1).toInt ≤ 9) : Sf (mX1_sumOfLegs k0 x1 M) (pI (-2147483648) (2147483647)) := by
  unfold mX1_sumOfLegs
  have n_1 : ((0 : Int32)).toInt = 0 := rfl
  exact (sX1_sumOfLegs_l4 hk0 h_M ⟨by omega, by omega⟩ ⟨by omega, by omega⟩ (by omega))
set_option maxHeartbeats 2000000 in
theorem sX1_isSameFromOtherEnd_b48 {f : Bx} {k0 : Nat} {M : Mem} {ih48 : Int32 → Option Int32} {x1 : Int32} {d48 : Nat} (hk0 : isP k0) (h_M : OKb f M) (hx1 : (0 : Int) ≤ (x1).toInt ∧ (x1).toInt ≤ 8) (hih48 : ∀ (yx1 : Int32), ((0 : Int) ≤ (yx1).toInt ∧ (yx1).toInt ≤ 8) → 8 - (yx1).toInt < d48 → Sf (ih48 yx1) (pI (0) (1))) (hmu48 : 8 - (x1).toInt ≤ d48) : Sf (mX1_isSameFromOtherEnd_b48 k0 M ih48 x1) (pI (0) (1)) := by
  unfold mX1_isSameFromOtherEnd_b48
  refine Sf.c (sX1_bendCount hk0 h_M) (fun r3 p_1 => ?_)
  obtain ⟨p_1a, p_1b⟩ := p_1
  refine Sf.i (fun c_2 => ?_) (fun c_2 => ?_)
  · have c_2 := i_le.mp c_2
    have n_3 : ((1 : Int32)).toInt = 1 := rfl
    have z_4 : (0 : Int) ≤ ((1 : Int32)).toInt ∧ ((1 : Int32)).toInt ≤ 1 := ⟨by omega, by omega⟩
    exact Sf.ok z_4
  · have c_2 := i_nle c_2
    refine Sf.c (sX1_goesUp hk0 h_M ⟨by omega, by omega⟩) (fun r7 p_5 => ?_)
    obtain ⟨p_5a, p_5b⟩ := p_5
    refine Sf.c (sX1_bendCount hk0 h_M) (fun r10 p_6 => ?_)
    obtain ⟨p_6a, p_6b⟩ := p_6
    have n_7 : ((1 : Int32)).toInt = 1 := rfl
    try have a_8 : ((r10 - (1 : Int32))).toInt = (r10).toInt - ((1 : Int32)).toInt := i_sub (by omega) (by omega)
    try have a_9 : (((r10 - (1 : Int32)) - x1)).toInt = ((r10 - (1 : Int32))).toInt - (x1).toInt := i_sub (by omega) (by omega)
    refine Sf.c (sX1_goesUp hk0 h_M ⟨by omega, by omega⟩) (fun r13 p_10 => ?_)
    obtain ⟨p_10a, p_10b⟩ := p_10
    refine Sf.i (fun c_11 => ?_) (fun c_11 => ?_)
    · have c_11 := i_eq.mp c_11
      try have a_12 : ((x1 + (1 : Int32))).toInt = (x1).toInt + ((1 : Int32)).toInt := i_add (by omega) (by omega)
      refine Sf.b (fun x1_78 e_x1_78 => ?_)
      have d_x1_78 := congrArg Int32.toInt e_x1_78
      exact (hih48 _ ⟨by omega, by omega⟩ (by omega))
    · have c_11 := i_ne c_11
      have n_13 : ((0 : Int32)).toInt = 0 := rfl
      have z_14 : (0 : Int) ≤ ((0 : Int32)).toInt ∧ ((0 : Int32)).toInt ≤ 1 := ⟨by omega, by omega⟩
      exact Sf.ok z_14
theorem sX1_isSameFromOtherEnd_l48_n {f : Bx} {k0 : Nat} (hk0 : isP k0) {M : Mem}  (h_M : OKb f M)   : ∀ (n : Nat) (x1 : Int32) (hx1 : (0 : Int) ≤ (x1).toInt ∧ (x1).toInt ≤ 8)   (hmu : 8 - (x1).toInt < n), Sf (mX1_isSameFromOtherEnd_l48 k0 M n x1) (pI (0) (1)) := by
  intro n
  induction n with
  | zero => intro x1 hx1 hmu; exfalso; omega
  | succ n IH => intro x1 hx1 hmu; exact sX1_isSameFromOtherEnd_b48 hk0 h_M hx1    IH (by omega)
theorem sX1_isSameFromOtherEnd_l48 {f : Bx} {k0 : Nat} (hk0 : isP k0) {M : Mem} {x1 : Int32}  (h_M : OKb f M) (hx1 : (0 : Int) ≤ (x1).toInt ∧ (x1).toInt ≤ 8)    (hmu : 8 - (x1).toInt < 5000) : Sf (mX1_isSameFromOtherEnd_l48 k0 M 5000 x1) (pI (0) (1)) :=
  sX1_isSameFromOtherEnd_l48_n hk0 h_M   5000 _ hx1   hmu
set_option maxHeartbeats 2000000 in
theorem sX1_isSameFromOtherEnd_b46 {f : Bx} {k0 : Nat} {M : Mem} (hk0 : isP k0) (h_M : OKb f M) : Sf (mX1_isSameFromOtherEnd_b46 k0 M) (pI (0) (1)) := by
  unfold mX1_isSameFromOtherEnd_b46
  have n_1 : ((0 : Int32)).toInt = 0 := rfl
  exact (sX1_isSameFromOtherEnd_l48 hk0 h_M ⟨by omega, by omega⟩ (by omega))
set_option maxHeartbeats 2000000 in
theorem sX1_isSameFromOtherEnd_b2 {f : Bx} {k0 : Nat} {M : Mem} {ih2 : Int32 → Option Int32} {x1 : Int32} {d2 : Nat} (hk0 : isP k0) (h_M : OKb f M) (hx1 : (0 : Int) ≤ (x1).toInt ∧ (x1).toInt ≤ 9) (hih2 : ∀ (yx1 : Int32), ((0 : Int) ≤ (yx1).toInt ∧ (yx1).toInt ≤ 9) → 9 - (yx1).toInt < d2 → Sf (ih2 yx1) (pI (0) (1))) (hmu2 : 9 - (x1).toInt ≤ d2) : Sf (mX1_isSameFromOtherEnd_b2 k0 M ih2 x1) (pI (0) (1)) := by
  unfold mX1_isSameFromOtherEnd_b2
  have b_1 : (0 : Int) ≤ (rd M k0 0).toInt ∧ (rd M k0 0).toInt ≤ 9 := h_M.at (bx_P0 hk0)
  refine Sf.i (fun c_2 => ?_) (fun c_2 => ?_)
  · have c_2 := i_le.mp c_2
    exact (sX1_isSameFromOtherEnd_b46 hk0 h_M)
  · have c_2 := i_nle c_2
    have n_3 : ((9 : Int32)).toInt = 9 := rfl
    refine Sf.i (fun c_4 => ?_) (fun c_4 => ?_)
    · have c_4 := i_le.mp c_4
      exfalso; omega
    · have c_4 := i_nle c_4
      refine Sf.k (ok_in (by omega) (by omega)) ?_
      have n_5 : ((1 : Int32)).toInt = 1 := rfl
      try have a_6 : (((rd M k0 0) - (1 : Int32))).toInt = ((rd M k0 0)).toInt - ((1 : Int32)).toInt := i_sub (by omega) (by omega)
      try have a_7 : ((((rd M k0 0) - (1 : Int32)) - x1)).toInt = (((rd M k0 0) - (1 : Int32))).toInt - (x1).toInt := i_sub (by omega) (by omega)
      refine Sf.k (ok_in (by omega) (by omega)) ?_
      have b_8 : (0 : Int) ≤ (rd M (k0 + 1) ((x1).toNatClampNeg)).toInt ∧ (rd M (k0 + 1) ((x1).toNatClampNeg)).toInt ≤ 9999 := h_M.at (bx_P (c := 1) hk0 (by omega))
      have b_9 : (0 : Int) ≤ (rd M (k0 + 1) (((((rd M k0 0) - (1 : Int32)) - x1)).toNatClampNeg)).toInt ∧ (rd M (k0 + 1) (((((rd M k0 0) - (1 : Int32)) - x1)).toNatClampNeg)).toInt ≤ 9999 := h_M.at (bx_P (c := 1) hk0 (by omega))
      refine Sf.i (fun c_10 => ?_) (fun c_10 => ?_)
      · have c_10 := i_eq.mp c_10
        try have a_11 : ((x1 + (1 : Int32))).toInt = (x1).toInt + ((1 : Int32)).toInt := i_add (by omega) (by omega)
        refine Sf.b (fun x1_40 e_x1_40 => ?_)
        have d_x1_40 := congrArg Int32.toInt e_x1_40
        exact (hih2 _ ⟨by omega, by omega⟩ (by omega))
      · have c_10 := i_ne c_10
        have n_12 : ((0 : Int32)).toInt = 0 := rfl
        have z_13 : (0 : Int) ≤ ((0 : Int32)).toInt ∧ ((0 : Int32)).toInt ≤ 1 := ⟨by omega, by omega⟩
        exact Sf.ok z_13
theorem sX1_isSameFromOtherEnd_l2_n {f : Bx} {k0 : Nat} (hk0 : isP k0) {M : Mem}  (h_M : OKb f M)   : ∀ (n : Nat) (x1 : Int32) (hx1 : (0 : Int) ≤ (x1).toInt ∧ (x1).toInt ≤ 9)   (hmu : 9 - (x1).toInt < n), Sf (mX1_isSameFromOtherEnd_l2 k0 M n x1) (pI (0) (1)) := by
  intro n
  induction n with
  | zero => intro x1 hx1 hmu; exfalso; omega
  | succ n IH => intro x1 hx1 hmu; exact sX1_isSameFromOtherEnd_b2 hk0 h_M hx1    IH (by omega)
theorem sX1_isSameFromOtherEnd_l2 {f : Bx} {k0 : Nat} (hk0 : isP k0) {M : Mem} {x1 : Int32}  (h_M : OKb f M) (hx1 : (0 : Int) ≤ (x1).toInt ∧ (x1).toInt ≤ 9)    (hmu : 9 - (x1).toInt < 5000) : Sf (mX1_isSameFromOtherEnd_l2 k0 M 5000 x1) (pI (0) (1)) :=
  sX1_isSameFromOtherEnd_l2_n hk0 h_M   5000 _ hx1   hmu
set_option maxHeartbeats 2000000 in
theorem sX1_isSameFromOtherEnd {f : Bx} {k0 : Nat} {M : Mem} (hk0 : isP k0) (h_M : OKb f M) : Sf (mX1_isSameFromOtherEnd k0 M) (pI (0) (1)) := by
  unfold mX1_isSameFromOtherEnd
  have n_1 : ((0 : Int32)).toInt = 0 := rfl
  exact (sX1_isSameFromOtherEnd_l2 hk0 h_M ⟨by omega, by omega⟩ (by omega))
set_option maxHeartbeats 2000000 in
theorem sX1_addStep {f : Bx} {k0 : Nat} {x1 : Int32} {x2 : Int32} {x3 : Int32} {M : Mem} (hk0 : isP k0) (h_M : OKb f M) (hx1 : (0 : Int) ≤ (x1).toInt ∧ (x1).toInt ≤ 15) (hx2 : (0 : Int) ≤ (x2).toInt ∧ (x2).toInt ≤ 2147483647) (hx3 : (0 : Int) ≤ (x3).toInt ∧ (x3).toInt ≤ 297) : Sf (mX1_addStep k0 x1 x2 x3 M) (pM f) := by
  unfold mX1_addStep
  have n_1 : ((8 : Int32)).toInt = 8 := rfl
  have b_2 : (0 : Int) ≤ (rd M k0 14).toInt ∧ (rd M k0 14).toInt ≤ 8 := h_M.at (bx_P0 hk0)
  refine Sf.i (fun c_3 => ?_) (fun c_3 => ?_)
  · have c_3 := i_le.mp c_3
    exact Sf.ok h_M
  · have c_3 := i_nle c_3
    refine Sf.k (ok_in (by omega) (by omega)) ?_
    have z_4 : (0 : Int) ≤ (x1).toInt ∧ (x1).toInt ≤ 15 := ⟨by omega, by omega⟩
    refine Sf.b (fun M4 e_M4 => ?_)
    have h_M4 : OKb f M4 := by rw [e_M4]; exact h_M.put (bx_P (c := 5) hk0 (by omega)) z_4
    have w_5 : (rd M4 k0 14).toInt = (rd M k0 14).toInt := by rw [e_M4, rd_wk (by omega)]
    refine Sf.k (ok_in (by omega) (by omega)) ?_
    refine Sf.b (fun M7 e_M7 => ?_)
    have h_M7 : OKb f M7 := by rw [e_M7]; exact h_M4.put (bx_P (c := 6) hk0 (by omega)) (i_rng _)
    have w_6 : (rd M7 k0 14).toInt = (rd M4 k0 14).toInt := by rw [e_M7, rd_wk (by omega)]
    have w_7 : (rd M4 k0 14).toInt = (rd M k0 14).toInt := by rw [e_M4, rd_wk (by omega)]
    refine Sf.k (ok_in (by omega) (by omega)) ?_
    have z_8 : (0 : Int) ≤ (x3).toInt ∧ (x3).toInt ≤ 297 := ⟨by omega, by omega⟩
    refine Sf.b (fun M10 e_M10 => ?_)
    have h_M10 : OKb f M10 := by rw [e_M10]; exact h_M7.put (bx_P (c := 7) hk0 (by omega)) z_8
    have w_9 : (rd M10 k0 14).toInt = (rd M7 k0 14).toInt := by rw [e_M10, rd_wk (by omega)]
    have w_10 : (rd M7 k0 14).toInt = (rd M4 k0 14).toInt := by rw [e_M7, rd_wk (by omega)]
    have w_11 : (rd M4 k0 14).toInt = (rd M k0 14).toInt := by rw [e_M4, rd_wk (by omega)]
    have n_12 : ((1 : Int32)).toInt = 1 := rfl
    try have a_13 : (((rd M10 k0 14) + (1 : Int32))).toInt = ((rd M10 k0 14)).toInt + ((1 : Int32)).toInt := i_add (by omega) (by omega)
    have z_14 : (0 : Int) ≤ (((rd M10 k0 14) + (1 : Int32))).toInt ∧ (((rd M10 k0 14) + (1 : Int32))).toInt ≤ 8 := ⟨by omega, by omega⟩
    refine Sf.b (fun M11 e_M11 => ?_)
    have h_M11 : OKb f M11 := by rw [e_M11]; exact h_M10.put (bx_P0 hk0) z_14
    have w_15 : (rd M11 k0 13).toInt = (rd M10 k0 13).toInt := by rw [e_M11, rd_wj (by decide)]
    have w_16 : (rd M10 k0 13).toInt = (rd M7 k0 13).toInt := by rw [e_M10, rd_wk (by omega)]
    have w_17 : (rd M7 k0 13).toInt = (rd M4 k0 13).toInt := by rw [e_M7, rd_wk (by omega)]
    have w_18 : (rd M4 k0 13).toInt = (rd M k0 13).toInt := by rw [e_M4, rd_wk (by omega)]
    have b_19 : (0 : Int) ≤ (rd M k0 13).toInt ∧ (rd M k0 13).toInt ≤ 255 := h_M.at (bx_P0 hk0)
    try have a_20 := i_shr1 (a := x1)
    try have a_21 : 0 < (((1 : Int32) <<< ((x1 >>> ((1 : Int32) &&& 31)) &&& 31))).toInt ∧ (((1 : Int32) <<< ((x1 >>> ((1 : Int32) &&& 31)) &&& 31))).toInt ≤ 128 := i_shl 7 (by decide) ⟨by omega, by omega⟩
    try have a_22 : 0 ≤ (((rd M11 k0 13) ||| ((1 : Int32) <<< ((x1 >>> ((1 : Int32) &&& 31)) &&& 31)))).toInt ∧ (((rd M11 k0 13) ||| ((1 : Int32) <<< ((x1 >>> ((1 : Int32) &&& 31)) &&& 31)))).toInt < 256 := i_or 8 (by decide) ⟨by omega, by omega⟩ ⟨by omega, by omega⟩
    have z_23 : (0 : Int) ≤ (((rd M11 k0 13) ||| ((1 : Int32) <<< ((x1 >>> ((1 : Int32) &&& 31)) &&& 31)))).toInt ∧ (((rd M11 k0 13) ||| ((1 : Int32) <<< ((x1 >>> ((1 : Int32) &&& 31)) &&& 31)))).toInt ≤ 255 := ⟨by omega, by omega⟩
    refine Sf.b (fun M13 e_M13 => ?_)
    have h_M13 : OKb f M13 := by rw [e_M13]; exact h_M11.put (bx_P0 hk0) z_23
    exact Sf.ok h_M13
set_option maxHeartbeats 2000000 in
theorem sX1_lastCode {f : Bx} {k0 : Nat} {M : Mem} (hk0 : isP k0) (h_M : OKb f M) : Sf (mX1_lastCode k0 M) (pI (-1) (15)) := by
  unfold mX1_lastCode
  have b_1 : (0 : Int) ≤ (rd M k0 14).toInt ∧ (rd M k0 14).toInt ≤ 8 := h_M.at (bx_P0 hk0)
  have n_2 : ((0 : Int32)).toInt = 0 := rfl
  refine Sf.i (fun c_3 => ?_) (fun c_3 => ?_)
  · have c_3 := i_le.mp c_3
    have n_4 : (((-1) : Int32)).toInt = -1 := rfl
    have z_5 : (-1 : Int) ≤ (((-1) : Int32)).toInt ∧ (((-1) : Int32)).toInt ≤ 15 := ⟨by omega, by omega⟩
    exact Sf.ok z_5
  · have c_3 := i_nle c_3
    have n_6 : ((1 : Int32)).toInt = 1 := rfl
    try have a_7 : (((rd M k0 14) - (1 : Int32))).toInt = ((rd M k0 14)).toInt - ((1 : Int32)).toInt := i_sub (by omega) (by omega)
    refine Sf.k (ok_in (by omega) (by omega)) ?_
    have b_8 : (0 : Int) ≤ (rd M (k0 + 5) ((((rd M k0 14) - (1 : Int32))).toNatClampNeg)).toInt ∧ (rd M (k0 + 5) ((((rd M k0 14) - (1 : Int32))).toNatClampNeg)).toInt ≤ 15 := h_M.at (bx_P (c := 5) hk0 (by omega))
    have z_9 : (-1 : Int) ≤ ((rd M (k0 + 5) ((((rd M k0 14) - (1 : Int32))).toNatClampNeg))).toInt ∧ ((rd M (k0 + 5) ((((rd M k0 14) - (1 : Int32))).toNatClampNeg))).toInt ≤ 15 := ⟨by omega, by omega⟩
    exact Sf.ok z_9
set_option maxHeartbeats 2000000 in
theorem sX1_lastGauge {f : Bx} {k0 : Nat} {M : Mem} (hk0 : isP k0) (h_M : OKb f M) : Sf (mX1_lastGauge k0 M) (pI (-2147483648) (2147483647)) := by
  unfold mX1_lastGauge
  have b_1 : (0 : Int) ≤ (rd M k0 14).toInt ∧ (rd M k0 14).toInt ≤ 8 := h_M.at (bx_P0 hk0)
  have n_2 : ((0 : Int32)).toInt = 0 := rfl
  refine Sf.i (fun c_3 => ?_) (fun c_3 => ?_)
  · have c_3 := i_le.mp c_3
    exact Sf.ok (i_rng _)
  · have c_3 := i_nle c_3
    have n_4 : ((1 : Int32)).toInt = 1 := rfl
    try have a_5 : (((rd M k0 14) - (1 : Int32))).toInt = ((rd M k0 14)).toInt - ((1 : Int32)).toInt := i_sub (by omega) (by omega)
    refine Sf.k (ok_in (by omega) (by omega)) ?_
    exact Sf.ok (i_rng _)
set_option maxHeartbeats 2000000 in
theorem sX1_sumOfCosts_b4 {f : Bx} {k0 : Nat} {M : Mem} {ih4 : Int32 → Int32 → Option Int32} {x1 : Int32} {x2 : Int32} {d4 : Nat} (hk0 : isP k0) (h_M : OKb f M) (hx2 : (0 : Int) ≤ (x2).toInt ∧ (x2).toInt ≤ 8) (hih4 : ∀ (yx1 : Int32) (yx2 : Int32), ((0 : Int) ≤ (yx2).toInt ∧ (yx2).toInt ≤ 8) → 8 - (yx2).toInt < d4 → Sf (ih4 yx1 yx2) (pI (-2147483648) (2147483647))) (hmu4 : 8 - (x2).toInt ≤ d4) : Sf (mX1_sumOfCosts_b4 k0 M ih4 x1 x2) (pI (-2147483648) (2147483647)) := by
  unfold mX1_sumOfCosts_b4
  have b_1 : (0 : Int) ≤ (rd M k0 14).toInt ∧ (rd M k0 14).toInt ≤ 8 := h_M.at (bx_P0 hk0)
  refine Sf.i (fun c_2 => ?_) (fun c_2 => ?_)
  · have c_2 := i_le.mp c_2
    exact Sf.ok (i_rng _)
  · have c_2 := i_nle c_2
    have n_3 : ((8 : Int32)).toInt = 8 := rfl
    refine Sf.i (fun c_4 => ?_) (fun c_4 => ?_)
    · have c_4 := i_le.mp c_4
      exfalso; omega
    · have c_4 := i_nle c_4
      refine Sf.k (ok_in (by omega) (by omega)) ?_
      have b_5 : (0 : Int) ≤ (rd M (k0 + 7) ((x2).toNatClampNeg)).toInt ∧ (rd M (k0 + 7) ((x2).toNatClampNeg)).toInt ≤ 297 := h_M.at (bx_P (c := 7) hk0 (by omega))
      refine Sf.b (fun x1_26 e_x1_26 => ?_)
      have d_x1_26 := congrArg Int32.toInt e_x1_26
      have n_6 : ((1 : Int32)).toInt = 1 := rfl
      try have a_7 : ((x2 + (1 : Int32))).toInt = (x2).toInt + ((1 : Int32)).toInt := i_add (by omega) (by omega)
      refine Sf.b (fun x2_27 e_x2_27 => ?_)
      have d_x2_27 := congrArg Int32.toInt e_x2_27
      exact (hih4 _ _ ⟨by omega, by omega⟩ (by omega))
theorem sX1_sumOfCosts_l4_n {f : Bx} {k0 : Nat} (hk0 : isP k0) {M : Mem}  (h_M : OKb f M)   : ∀ (n : Nat) (x1 : Int32) (x2 : Int32) (hx2 : (0 : Int) ≤ (x2).toInt ∧ (x2).toInt ≤ 8)   (hmu : 8 - (x2).toInt < n), Sf (mX1_sumOfCosts_l4 k0 M n x1 x2) (pI (-2147483648) (2147483647)) := by
  intro n
  induction n with
  | zero => intro x1 x2 hx2 hmu; exfalso; omega
  | succ n IH => intro x1 x2 hx2 hmu; exact sX1_sumOfCosts_b4 hk0 h_M hx2    IH (by omega)
theorem sX1_sumOfCosts_l4 {f : Bx} {k0 : Nat} (hk0 : isP k0) {M : Mem} {x1 : Int32} {x2 : Int32}  (h_M : OKb f M) (hx2 : (0 : Int) ≤ (x2).toInt ∧ (x2).toInt ≤ 8)    (hmu : 8 - (x2).toInt < 5000) : Sf (mX1_sumOfCosts_l4 k0 M 5000 x1 x2) (pI (-2147483648) (2147483647)) :=
  sX1_sumOfCosts_l4_n hk0 h_M   5000 _ _ hx2   hmu
set_option maxHeartbeats 2000000 in
theorem sX1_sumOfCosts {f : Bx} {k0 : Nat} {M : Mem} (hk0 : isP k0) (h_M : OKb f M) : Sf (mX1_sumOfCosts k0 M) (pI (-2147483648) (2147483647)) := by
  unfold mX1_sumOfCosts
  have n_1 : ((0 : Int32)).toInt = 0 := rfl
  exact (sX1_sumOfCosts_l4 hk0 h_M ⟨by omega, by omega⟩ (by omega))
set_option maxHeartbeats 2000000 in
theorem sX1_priceBetween_b54 {f : Bx} {k0 : Nat} {M : Mem} {x2 : Int32} {x4 : Int32} {x5 : Int32} (hk0 : isP k0) (h_M : OKb f M) (hx4 : (0 : Int) ≤ (x4).toInt ∧ (x4).toInt ≤ 2147483647) (hx5 : (0 : Int) ≤ (x5).toInt ∧ (x5).toInt ≤ 198) : Sf (mX1_priceBetween_b54 k0 M x2 x4 x5) (pI (0) (297)) := by
  unfold mX1_priceBetween_b54
  refine Sf.i (fun c_1 => ?_) (fun c_1 => ?_)
  · have c_1 := i_eq.mp c_1
    have z_2 : (0 : Int) ≤ (x5).toInt ∧ (x5).toInt ≤ 297 := ⟨by omega, by omega⟩
    exact Sf.ok z_2
  · have c_1 := i_ne c_1
    have b_3 : (0 : Int) ≤ (rd M k0 9).toInt ∧ (rd M k0 9).toInt ≤ 99 := h_M.at (bx_P0 hk0)
    try have a_4 : ((x5 + (rd M k0 9))).toInt = (x5).toInt + ((rd M k0 9)).toInt := i_add (by omega) (by omega)
    refine Sf.b (fun x5_67 e_x5_67 => ?_)
    have d_x5_67 := congrArg Int32.toInt e_x5_67
    have z_5 : (0 : Int) ≤ (x5_67).toInt ∧ (x5_67).toInt ≤ 297 := ⟨by omega, by omega⟩
    exact Sf.ok z_5
set_option maxHeartbeats 2000000 in
theorem sX1_priceBetween_b36 {f : Bx} {k0 : Nat} {M : Mem} {x1 : Int32} {x2 : Int32} {x3 : Int32} {x4 : Int32} {x5 : Int32} (hk0 : isP k0) (h_M : OKb f M) (hx1 : (0 : Int) ≤ (x1).toInt ∧ (x1).toInt ≤ 15) (hx3 : (0 : Int) ≤ (x3).toInt ∧ (x3).toInt ≤ 15) (hx4 : (0 : Int) ≤ (x4).toInt ∧ (x4).toInt ≤ 2147483647) (hx5 : (0 : Int) ≤ (x5).toInt ∧ (x5).toInt ≤ 99) : Sf (mX1_priceBetween_b36 k0 M x1 x2 x3 x4 x5) (pI (0) (297)) := by
  unfold mX1_priceBetween_b36
  have n_1 : ((1 : Int32)).toInt = 1 := rfl
  try have a_2 := i_and (a := x1) (b := (1 : Int32)) (by omega)
  try have a_3 := i_andr (a := x1) (b := (1 : Int32)) (by omega)
  try have a_4 := i_and (a := x3) (b := (1 : Int32)) (by omega)
  try have a_5 := i_andr (a := x3) (b := (1 : Int32)) (by omega)
  refine Sf.i (fun c_6 => ?_) (fun c_6 => ?_)
  · have c_6 := i_eq.mp c_6
    have g_7 := i_rng x4
    exact (sX1_priceBetween_b54 hk0 h_M ⟨by omega, by omega⟩ ⟨by omega, by omega⟩)
  · have c_6 := i_ne c_6
    have b_8 : (0 : Int) ≤ (rd M k0 8).toInt ∧ (rd M k0 8).toInt ≤ 99 := h_M.at (bx_P0 hk0)
    try have a_9 : ((x5 + (rd M k0 8))).toInt = (x5).toInt + ((rd M k0 8)).toInt := i_add (by omega) (by omega)
    refine Sf.b (fun x5_52 e_x5_52 => ?_)
    have d_x5_52 := congrArg Int32.toInt e_x5_52
    have g_10 := i_rng x4
    exact (sX1_priceBetween_b54 hk0 h_M ⟨by omega, by omega⟩ ⟨by omega, by omega⟩)
set_option maxHeartbeats 2000000 in
theorem sX1_priceBetween {f : Bx} {k0 : Nat} {x1 : Int32} {x2 : Int32} {x3 : Int32} {x4 : Int32} {M : Mem} (hk0 : isP k0) (h_M : OKb f M) (hx1 : (-1 : Int) ≤ (x1).toInt ∧ (x1).toInt ≤ 15) (hx3 : (0 : Int) ≤ (x3).toInt ∧ (x3).toInt ≤ 15) (hx4 : (0 : Int) ≤ (x4).toInt ∧ (x4).toInt ≤ 2147483647) : Sf (mX1_priceBetween k0 x1 x2 x3 x4 M) (pI (0) (297)) := by
  unfold mX1_priceBetween
  have n_1 : (((-1) : Int32)).toInt = -1 := rfl
  refine Sf.i (fun c_2 => ?_) (fun c_2 => ?_)
  · have c_2 := i_eq.mp c_2
    have n_3 : ((0 : Int32)).toInt = 0 := rfl
    have z_4 : (0 : Int) ≤ ((0 : Int32)).toInt ∧ ((0 : Int32)).toInt ≤ 297 := ⟨by omega, by omega⟩
    exact Sf.ok z_4
  · have c_2 := i_ne c_2
    try have a_5 := i_shr1 (a := x1)
    refine Sf.c (sX1_goesUp hk0 h_M ⟨by omega, by omega⟩) (fun r3 p_6 => ?_)
    obtain ⟨p_6a, p_6b⟩ := p_6
    try have a_7 := i_shr1 (a := x3)
    refine Sf.c (sX1_goesUp hk0 h_M ⟨by omega, by omega⟩) (fun r6 p_8 => ?_)
    obtain ⟨p_8a, p_8b⟩ := p_8
    refine Sf.i (fun c_9 => ?_) (fun c_9 => ?_)
    · have c_9 := i_eq.mp c_9
      have g_10 := i_rng x4
      have n_11 : ((0 : Int32)).toInt = 0 := rfl
      exact (sX1_priceBetween_b36 hk0 h_M ⟨by omega, by omega⟩ ⟨by omega, by omega⟩ ⟨by omega, by omega⟩ ⟨by omega, by omega⟩)
    · have c_9 := i_ne c_9
      have n_12 : ((0 : Int32)).toInt = 0 := rfl
      have b_13 : (0 : Int) ≤ (rd M k0 7).toInt ∧ (rd M k0 7).toInt ≤ 99 := h_M.at (bx_P0 hk0)
      try have a_14 : (((0 : Int32) + (rd M k0 7))).toInt = ((0 : Int32)).toInt + ((rd M k0 7)).toInt := i_add (by omega) (by omega)
      refine Sf.b (fun x5_34 e_x5_34 => ?_)
      have d_x5_34 := congrArg Int32.toInt e_x5_34
      have g_15 := i_rng x4
      exact (sX1_priceBetween_b36 hk0 h_M ⟨by omega, by omega⟩ ⟨by omega, by omega⟩ ⟨by omega, by omega⟩ ⟨by omega, by omega⟩)
set_option maxHeartbeats 2000000 in
theorem sX1_bendsLike_b65 {f : Bx} {k0 : Nat} {k1 : Nat} {M : Mem} {ih65 : Int32 → Option Int32} {x2 : Int32} {d65 : Nat} (hk0 : isP k0) (hk1 : isP k1) (h_M : OKb f M) (hx2 : (0 : Int) ≤ (x2).toInt ∧ (x2).toInt ≤ 10) (hih65 : ∀ (yx2 : Int32), ((0 : Int) ≤ (yx2).toInt ∧ (yx2).toInt ≤ 10) → 10 - (yx2).toInt < d65 → Sf (ih65 yx2) (pI (0) (1))) (hmu65 : 10 - (x2).toInt ≤ d65) : Sf (mX1_bendsLike_b65 k0 k1 M ih65 x2) (pI (0) (1)) := by
  unfold mX1_bendsLike_b65
  have n_1 : ((10 : Int32)).toInt = 10 := rfl
  refine Sf.i (fun c_2 => ?_) (fun c_2 => ?_)
  · have c_2 := i_le.mp c_2
    have n_3 : ((1 : Int32)).toInt = 1 := rfl
    have z_4 : (0 : Int) ≤ ((1 : Int32)).toInt ∧ ((1 : Int32)).toInt ≤ 1 := ⟨by omega, by omega⟩
    exact Sf.ok z_4
  · have c_2 := i_nle c_2
    refine Sf.k (ok_in (by omega) (by omega)) ?_
    refine Sf.k (ok_in (by omega) (by omega)) ?_
    refine Sf.i (fun c_5 => ?_) (fun c_5 => ?_)
    · have c_5 := i_eq.mp c_5
      have n_6 : ((1 : Int32)).toInt = 1 := rfl
      try have a_7 : ((x2 + (1 : Int32))).toInt = (x2).toInt + ((1 : Int32)).toInt := i_add (by omega) (by omega)
      refine Sf.b (fun x2_88 e_x2_88 => ?_)
      have d_x2_88 := congrArg Int32.toInt e_x2_88
      exact (hih65 _ ⟨by omega, by omega⟩ (by omega))
    · have c_5 := i_ne c_5
      have n_8 : ((0 : Int32)).toInt = 0 := rfl
      have z_9 : (0 : Int) ≤ ((0 : Int32)).toInt ∧ ((0 : Int32)).toInt ≤ 1 := ⟨by omega, by omega⟩
      exact Sf.ok z_9
theorem sX1_bendsLike_l65_n {f : Bx} {k0 : Nat} (hk0 : isP k0) {k1 : Nat} (hk1 : isP k1) {M : Mem}  (h_M : OKb f M)   : ∀ (n : Nat) (x2 : Int32) (hx2 : (0 : Int) ≤ (x2).toInt ∧ (x2).toInt ≤ 10)   (hmu : 10 - (x2).toInt < n), Sf (mX1_bendsLike_l65 k0 k1 M n x2) (pI (0) (1)) := by
  intro n
  induction n with
  | zero => intro x2 hx2 hmu; exfalso; omega
  | succ n IH => intro x2 hx2 hmu; exact sX1_bendsLike_b65 hk0 hk1 h_M hx2    IH (by omega)
theorem sX1_bendsLike_l65 {f : Bx} {k0 : Nat} (hk0 : isP k0) {k1 : Nat} (hk1 : isP k1) {M : Mem} {x2 : Int32}  (h_M : OKb f M) (hx2 : (0 : Int) ≤ (x2).toInt ∧ (x2).toInt ≤ 10)    (hmu : 10 - (x2).toInt < 5000) : Sf (mX1_bendsLike_l65 k0 k1 M 5000 x2) (pI (0) (1)) :=
  sX1_bendsLike_l65_n hk0 hk1 h_M   5000 _ hx2   hmu
set_option maxHeartbeats 2000000 in
theorem sX1_bendsLike_b63 {f : Bx} {k0 : Nat} {k1 : Nat} {M : Mem} (hk0 : isP k0) (hk1 : isP k1) (h_M : OKb f M) : Sf (mX1_bendsLike_b63 k0 k1 M) (pI (0) (1)) := by
  unfold mX1_bendsLike_b63
  have n_1 : ((0 : Int32)).toInt = 0 := rfl
  exact (sX1_bendsLike_l65 hk0 hk1 h_M ⟨by omega, by omega⟩ (by omega))
set_option maxHeartbeats 2000000 in
theorem sX1_bendsLike_b26 {f : Bx} {k0 : Nat} {k1 : Nat} {M : Mem} {ih26 : Int32 → Option Int32} {x2 : Int32} {d26 : Nat} (hk0 : isP k0) (hk1 : isP k1) (h_M : OKb f M) (hx2 : (0 : Int) ≤ (x2).toInt ∧ (x2).toInt ≤ 9) (hih26 : ∀ (yx2 : Int32), ((0 : Int) ≤ (yx2).toInt ∧ (yx2).toInt ≤ 9) → 9 - (yx2).toInt < d26 → Sf (ih26 yx2) (pI (0) (1))) (hmu26 : 9 - (x2).toInt ≤ d26) : Sf (mX1_bendsLike_b26 k0 k1 M ih26 x2) (pI (0) (1)) := by
  unfold mX1_bendsLike_b26
  have b_1 : (0 : Int) ≤ (rd M k0 0).toInt ∧ (rd M k0 0).toInt ≤ 9 := h_M.at (bx_P0 hk0)
  refine Sf.i (fun c_2 => ?_) (fun c_2 => ?_)
  · have c_2 := i_le.mp c_2
    exact (sX1_bendsLike_b63 hk0 hk1 h_M)
  · have c_2 := i_nle c_2
    have n_3 : ((9 : Int32)).toInt = 9 := rfl
    refine Sf.i (fun c_4 => ?_) (fun c_4 => ?_)
    · have c_4 := i_le.mp c_4
      exfalso; omega
    · have c_4 := i_nle c_4
      refine Sf.k (ok_in (by omega) (by omega)) ?_
      refine Sf.k (ok_in (by omega) (by omega)) ?_
      have b_5 : (0 : Int) ≤ (rd M (k0 + 1) ((x2).toNatClampNeg)).toInt ∧ (rd M (k0 + 1) ((x2).toNatClampNeg)).toInt ≤ 9999 := h_M.at (bx_P (c := 1) hk0 (by omega))
      have b_6 : (0 : Int) ≤ (rd M (k1 + 1) ((x2).toNatClampNeg)).toInt ∧ (rd M (k1 + 1) ((x2).toNatClampNeg)).toInt ≤ 9999 := h_M.at (bx_P (c := 1) hk1 (by omega))
      refine Sf.i (fun c_7 => ?_) (fun c_7 => ?_)
      · have c_7 := i_eq.mp c_7
        have n_8 : ((1 : Int32)).toInt = 1 := rfl
        try have a_9 : ((x2 + (1 : Int32))).toInt = (x2).toInt + ((1 : Int32)).toInt := i_add (by omega) (by omega)
        refine Sf.b (fun x2_57 e_x2_57 => ?_)
        have d_x2_57 := congrArg Int32.toInt e_x2_57
        exact (hih26 _ ⟨by omega, by omega⟩ (by omega))
      · have c_7 := i_ne c_7
        have n_10 : ((0 : Int32)).toInt = 0 := rfl
        have z_11 : (0 : Int) ≤ ((0 : Int32)).toInt ∧ ((0 : Int32)).toInt ≤ 1 := ⟨by omega, by omega⟩
        exact Sf.ok z_11
theorem sX1_bendsLike_l26_n {f : Bx} {k0 : Nat} (hk0 : isP k0) {k1 : Nat} (hk1 : isP k1) {M : Mem}  (h_M : OKb f M)   : ∀ (n : Nat) (x2 : Int32) (hx2 : (0 : Int) ≤ (x2).toInt ∧ (x2).toInt ≤ 9)   (hmu : 9 - (x2).toInt < n), Sf (mX1_bendsLike_l26 k0 k1 M n x2) (pI (0) (1)) := by
  intro n
  induction n with
  | zero => intro x2 hx2 hmu; exfalso; omega
  | succ n IH => intro x2 hx2 hmu; exact sX1_bendsLike_b26 hk0 hk1 h_M hx2    IH (by omega)
theorem sX1_bendsLike_l26 {f : Bx} {k0 : Nat} (hk0 : isP k0) {k1 : Nat} (hk1 : isP k1) {M : Mem} {x2 : Int32}  (h_M : OKb f M) (hx2 : (0 : Int) ≤ (x2).toInt ∧ (x2).toInt ≤ 9)    (hmu : 9 - (x2).toInt < 5000) : Sf (mX1_bendsLike_l26 k0 k1 M 5000 x2) (pI (0) (1)) :=
  sX1_bendsLike_l26_n hk0 hk1 h_M   5000 _ hx2   hmu
set_option maxHeartbeats 2000000 in
theorem sX1_bendsLike {f : Bx} {k0 : Nat} {k1 : Nat} {M : Mem} (hk0 : isP k0) (hk1 : isP k1) (h_M : OKb f M) : Sf (mX1_bendsLike k0 k1 M) (pI (0) (1)) := by
  unfold mX1_bendsLike
  have b_1 : (0 : Int) ≤ (rd M k0 0).toInt ∧ (rd M k0 0).toInt ≤ 9 := h_M.at (bx_P0 hk0)
  have b_2 : (0 : Int) ≤ (rd M k1 0).toInt ∧ (rd M k1 0).toInt ≤ 9 := h_M.at (bx_P0 hk1)
  refine Sf.i (fun c_3 => ?_) (fun c_3 => ?_)
  · have c_3 := i_eq.mp c_3
    have b_4 : (0 : Int) ≤ (rd M k0 2).toInt ∧ (rd M k0 2).toInt ≤ 255 := h_M.at (bx_P0 hk0)
    have b_5 : (0 : Int) ≤ (rd M k1 2).toInt ∧ (rd M k1 2).toInt ≤ 255 := h_M.at (bx_P0 hk1)
    refine Sf.i (fun c_6 => ?_) (fun c_6 => ?_)
    · have c_6 := i_eq.mp c_6
      have n_7 : ((0 : Int32)).toInt = 0 := rfl
      exact (sX1_bendsLike_l26 hk0 hk1 h_M ⟨by omega, by omega⟩ (by omega))
    · have c_6 := i_ne c_6
      have n_8 : ((0 : Int32)).toInt = 0 := rfl
      have z_9 : (0 : Int) ≤ ((0 : Int32)).toInt ∧ ((0 : Int32)).toInt ≤ 1 := ⟨by omega, by omega⟩
      exact Sf.ok z_9
  · have c_3 := i_ne c_3
    have n_10 : ((0 : Int32)).toInt = 0 := rfl
    have z_11 : (0 : Int) ≤ ((0 : Int32)).toInt ∧ ((0 : Int32)).toInt ≤ 1 := ⟨by omega, by omega⟩
    exact Sf.ok z_11
set_option maxHeartbeats 2000000 in
theorem sX1_goesOnLike {f : Bx} {k0 : Nat} {k1 : Nat} {M : Mem} (hk0 : isP k0) (hk1 : isP k1) (h_M : OKb f M) : Sf (mX1_goesOnLike k0 k1 M) (pI (0) (1)) := by
  unfold mX1_goesOnLike
  have b_1 : (0 : Int) ≤ (rd M k0 13).toInt ∧ (rd M k0 13).toInt ≤ 255 := h_M.at (bx_P0 hk0)
  have b_2 : (0 : Int) ≤ (rd M k1 13).toInt ∧ (rd M k1 13).toInt ≤ 255 := h_M.at (bx_P0 hk1)
  refine Sf.i (fun c_3 => ?_) (fun c_3 => ?_)
  · have c_3 := i_eq.mp c_3
    refine Sf.c (sX1_lastCode hk0 h_M) (fun r3 p_4 => ?_)
    obtain ⟨p_4a, p_4b⟩ := p_4
    refine Sf.c (sX1_lastCode hk1 h_M) (fun r6 p_5 => ?_)
    obtain ⟨p_5a, p_5b⟩ := p_5
    refine Sf.i (fun c_6 => ?_) (fun c_6 => ?_)
    · have c_6 := i_eq.mp c_6
      refine Sf.c (sX1_lastGauge hk0 h_M) (fun r10 p_7 => ?_)
      obtain ⟨p_7a, p_7b⟩ := p_7
      refine Sf.c (sX1_lastGauge hk1 h_M) (fun r13 p_8 => ?_)
      obtain ⟨p_8a, p_8b⟩ := p_8
      refine Sf.i (fun c_9 => ?_) (fun c_9 => ?_)
      · have c_9 := i_eq.mp c_9
        have b_10 : (0 : Int) ≤ (rd M k0 7).toInt ∧ (rd M k0 7).toInt ≤ 99 := h_M.at (bx_P0 hk0)
        have b_11 : (0 : Int) ≤ (rd M k1 7).toInt ∧ (rd M k1 7).toInt ≤ 99 := h_M.at (bx_P0 hk1)
        refine Sf.i (fun c_12 => ?_) (fun c_12 => ?_)
        · have c_12 := i_eq.mp c_12
          have b_13 : (0 : Int) ≤ (rd M k0 8).toInt ∧ (rd M k0 8).toInt ≤ 99 := h_M.at (bx_P0 hk0)
          have b_14 : (0 : Int) ≤ (rd M k1 8).toInt ∧ (rd M k1 8).toInt ≤ 99 := h_M.at (bx_P0 hk1)
          refine Sf.i (fun c_15 => ?_) (fun c_15 => ?_)
          · have c_15 := i_eq.mp c_15
            have b_16 : (0 : Int) ≤ (rd M k0 9).toInt ∧ (rd M k0 9).toInt ≤ 99 := h_M.at (bx_P0 hk0)
            have b_17 : (0 : Int) ≤ (rd M k1 9).toInt ∧ (rd M k1 9).toInt ≤ 99 := h_M.at (bx_P0 hk1)
            refine Sf.i (fun c_18 => ?_) (fun c_18 => ?_)
            · have c_18 := i_eq.mp c_18
              have n_19 : ((1 : Int32)).toInt = 1 := rfl
              have z_20 : (0 : Int) ≤ ((1 : Int32)).toInt ∧ ((1 : Int32)).toInt ≤ 1 := ⟨by omega, by omega⟩
              exact Sf.ok z_20
            · have c_18 := i_ne c_18
              have n_21 : ((0 : Int32)).toInt = 0 := rfl
              have z_22 : (0 : Int) ≤ ((0 : Int32)).toInt ∧ ((0 : Int32)).toInt ≤ 1 := ⟨by omega, by omega⟩
              exact Sf.ok z_22
          · have c_15 := i_ne c_15
            have n_23 : ((0 : Int32)).toInt = 0 := rfl
            have z_24 : (0 : Int) ≤ ((0 : Int32)).toInt ∧ ((0 : Int32)).toInt ≤ 1 := ⟨by omega, by omega⟩
            exact Sf.ok z_24
        · have c_12 := i_ne c_12
          have n_25 : ((0 : Int32)).toInt = 0 := rfl
          have z_26 : (0 : Int) ≤ ((0 : Int32)).toInt ∧ ((0 : Int32)).toInt ≤ 1 := ⟨by omega, by omega⟩
          exact Sf.ok z_26
      · have c_9 := i_ne c_9
        have n_27 : ((0 : Int32)).toInt = 0 := rfl
        have z_28 : (0 : Int) ≤ ((0 : Int32)).toInt ∧ ((0 : Int32)).toInt ≤ 1 := ⟨by omega, by omega⟩
        exact Sf.ok z_28
    · have c_6 := i_ne c_6
      have n_29 : ((0 : Int32)).toInt = 0 := rfl
      have z_30 : (0 : Int) ≤ ((0 : Int32)).toInt ∧ ((0 : Int32)).toInt ≤ 1 := ⟨by omega, by omega⟩
      exact Sf.ok z_30
  · have c_3 := i_ne c_3
    have n_31 : ((0 : Int32)).toInt = 0 := rfl
    have z_32 : (0 : Int) ≤ ((0 : Int32)).toInt ∧ ((0 : Int32)).toInt ≤ 1 := ⟨by omega, by omega⟩
    exact Sf.ok z_32
set_option maxHeartbeats 2000000 in
theorem sX2_walk_b272 {f : Bx} {k0 : Nat} {k1 : Nat} {ih13 : Int32 → Int32 → Int32 → Int32 → Int32 → Int32 → Int32 → Int32 → Mem → Option (Mem × Unit)} {x3 : Int32} {x5 : Int32} {x6 : Int32} {x7 : Int32} {x8 : Int32} {x9 : Int32} {x10 : Int32} {x11 : Int32} {M : Mem} {d13 : Nat} (hk0 : isL k0) (hk1 : isP k1) (h_M : OKb f M) (hx3 : (-1 : Int) ≤ (x3).toInt ∧ (x3).toInt ≤ 1) (hx5 : (1 : Int) ≤ (x5).toInt ∧ (x5).toInt ≤ 3) (hx6 : (0 : Int) ≤ (x6).toInt ∧ (x6).toInt ≤ 255) (hx10 : (0 : Int) ≤ (x10).toInt ∧ (x10).toInt ≤ 3) (hx11 : (0 : Int) ≤ (x11).toInt ∧ (x11).toInt ≤ 8) (he0 : (1 : Int) ≤ (rd M k0 6).toInt ∧ (rd M k0 6).toInt ≤ 9) (hr0 : ((x3).toInt = 1 ∨ (x3).toInt = -1)) (hih13 : ∀ (yx3 : Int32) (yx5 : Int32) (yx6 : Int32) (yx7 : Int32) (yx8 : Int32) (yx9 : Int32) (yx10 : Int32) (yx11 : Int32) (M : Mem), OKb f M → ((-1 : Int) ≤ (yx3).toInt ∧ (yx3).toInt ≤ 1) → ((1 : Int) ≤ (yx5).toInt ∧ (yx5).toInt ≤ 3) → ((0 : Int) ≤ (yx6).toInt ∧ (yx6).toInt ≤ 255) → ((0 : Int) ≤ (yx10).toInt ∧ (yx10).toInt ≤ 3) → ((-1 : Int) ≤ (yx11).toInt ∧ (yx11).toInt ≤ 9) → (((yx3).toInt = 1 ∨ (yx3).toInt = -1)) → (if (yx3).toInt = 1 then 10 - (yx11).toInt else (yx11).toInt + 2) < d13 → Sf (ih13 yx3 yx5 yx6 yx7 yx8 yx9 yx10 yx11 M) (pM f)) (hmu13 : (if (x3).toInt = 1 then 10 - (x11).toInt else (x11).toInt + 2) ≤ d13) : Sf (mX2_walk_b272 k0 k1 ih13 x3 x5 x6 x7 x8 x9 x10 x11 M) (pM f) := by
  unfold mX2_walk_b272
  try have a_1 : ((x11 + x3)).toInt = (x11).toInt + (x3).toInt := i_add (by omega) (by omega)
  refine Sf.b (fun x11_276 e_x11_276 => ?_)
  have d_x11_276 := congrArg Int32.toInt e_x11_276
  exact (hih13 _ _ _ _ _ _ _ _ _ h_M ⟨by omega, by omega⟩ ⟨by omega, by omega⟩ ⟨by omega, by omega⟩ ⟨by omega, by omega⟩ ⟨by omega, by omega⟩ (by omega) (by omega))
set_option maxHeartbeats 2000000 in
theorem sX2_walk_b267 {f : Bx} {k0 : Nat} {k1 : Nat} {ih13 : Int32 → Int32 → Int32 → Int32 → Int32 → Int32 → Int32 → Int32 → Mem → Option (Mem × Unit)} {x3 : Int32} {x5 : Int32} {x6 : Int32} {x7 : Int32} {x8 : Int32} {x9 : Int32} {x11 : Int32} {y0 : Int32} {y1 : Int32} {M : Mem} {d13 : Nat} (hk0 : isL k0) (hk1 : isP k1) (h_M : OKb f M) (hx3 : (-1 : Int) ≤ (x3).toInt ∧ (x3).toInt ≤ 1) (hx5 : (1 : Int) ≤ (x5).toInt ∧ (x5).toInt ≤ 3) (hx6 : (0 : Int) ≤ (x6).toInt ∧ (x6).toInt ≤ 255) (hx11 : (0 : Int) ≤ (x11).toInt ∧ (x11).toInt ≤ 8) (hy0 : (0 : Int) ≤ (y0).toInt ∧ (y0).toInt ≤ 3) (hy1 : (1 : Int) ≤ (y1).toInt ∧ (y1).toInt ≤ 3) (he0 : (1 : Int) ≤ (rd M k0 6).toInt ∧ (rd M k0 6).toInt ≤ 9) (hr0 : ((x3).toInt = 1 ∨ (x3).toInt = -1)) (hih13 : ∀ (yx3 : Int32) (yx5 : Int32) (yx6 : Int32) (yx7 : Int32) (yx8 : Int32) (yx9 : Int32) (yx10 : Int32) (yx11 : Int32) (M : Mem), OKb f M → ((-1 : Int) ≤ (yx3).toInt ∧ (yx3).toInt ≤ 1) → ((1 : Int) ≤ (yx5).toInt ∧ (yx5).toInt ≤ 3) → ((0 : Int) ≤ (yx6).toInt ∧ (yx6).toInt ≤ 255) → ((0 : Int) ≤ (yx10).toInt ∧ (yx10).toInt ≤ 3) → ((-1 : Int) ≤ (yx11).toInt ∧ (yx11).toInt ≤ 9) → (((yx3).toInt = 1 ∨ (yx3).toInt = -1)) → (if (yx3).toInt = 1 then 10 - (yx11).toInt else (yx11).toInt + 2) < d13 → Sf (ih13 yx3 yx5 yx6 yx7 yx8 yx9 yx10 yx11 M) (pM f)) (hmu13 : (if (x3).toInt = 1 then 10 - (x11).toInt else (x11).toInt + 2) ≤ d13) : Sf (mX2_walk_b267 k0 k1 ih13 x3 x5 x6 x7 x8 x9 x11 y0 y1 M) (pM f) := by
  unfold mX2_walk_b267
  try have a_1 : ((y0 + y1)).toInt = (y0).toInt + (y1).toInt := i_add (by omega) (by omega)
  have n_2 : ((3 : Int32)).toInt = 3 := rfl
  try have a_3 := i_and (a := (y0 + y1)) (b := (3 : Int32)) (by omega)
  try have a_4 := i_andr (a := (y0 + y1)) (b := (3 : Int32)) (by omega)
  refine Sf.b (fun x10_270 e_x10_270 => ?_)
  have d_x10_270 := congrArg Int32.toInt e_x10_270
  have b_5 : (0 : Int) ≤ (rd M k0 6).toInt ∧ (rd M k0 6).toInt ≤ 9 := h_M.at (bx_L0 hk0)
  exact (sX2_walk_b272 hk0 hk1 h_M ⟨by omega, by omega⟩ ⟨by omega, by omega⟩ ⟨by omega, by omega⟩ ⟨by omega, by omega⟩ ⟨by omega, by omega⟩ ⟨by omega, by omega⟩ (by omega) hih13 (by omega))
set_option maxHeartbeats 2000000 in
theorem sX2_walk_b249 {f : Bx} {k0 : Nat} {k1 : Nat} {ih13 : Int32 → Int32 → Int32 → Int32 → Int32 → Int32 → Int32 → Int32 → Mem → Option (Mem × Unit)} {x3 : Int32} {x5 : Int32} {x6 : Int32} {x7 : Int32} {x8 : Int32} {x9 : Int32} {x10 : Int32} {x11 : Int32} {y0 : Int32} {M : Mem} {d13 : Nat} (hk0 : isL k0) (hk1 : isP k1) (h_M : OKb f M) (hx3 : (-1 : Int) ≤ (x3).toInt ∧ (x3).toInt ≤ 1) (hx5 : (1 : Int) ≤ (x5).toInt ∧ (x5).toInt ≤ 3) (hx6 : (0 : Int) ≤ (x6).toInt ∧ (x6).toInt ≤ 255) (hx10 : (0 : Int) ≤ (x10).toInt ∧ (x10).toInt ≤ 3) (hx11 : (0 : Int) ≤ (x11).toInt ∧ (x11).toInt ≤ 8) (hy0 : (0 : Int) ≤ (y0).toInt ∧ (y0).toInt ≤ 1) (he0 : (1 : Int) ≤ (rd M k0 6).toInt ∧ (rd M k0 6).toInt ≤ 9) (hr0 : ((x3).toInt = 1 ∨ (x3).toInt = -1)) (hih13 : ∀ (yx3 : Int32) (yx5 : Int32) (yx6 : Int32) (yx7 : Int32) (yx8 : Int32) (yx9 : Int32) (yx10 : Int32) (yx11 : Int32) (M : Mem), OKb f M → ((-1 : Int) ≤ (yx3).toInt ∧ (yx3).toInt ≤ 1) → ((1 : Int) ≤ (yx5).toInt ∧ (yx5).toInt ≤ 3) → ((0 : Int) ≤ (yx6).toInt ∧ (yx6).toInt ≤ 255) → ((0 : Int) ≤ (yx10).toInt ∧ (yx10).toInt ≤ 3) → ((-1 : Int) ≤ (yx11).toInt ∧ (yx11).toInt ≤ 9) → (((yx3).toInt = 1 ∨ (yx3).toInt = -1)) → (if (yx3).toInt = 1 then 10 - (yx11).toInt else (yx11).toInt + 2) < d13 → Sf (ih13 yx3 yx5 yx6 yx7 yx8 yx9 yx10 yx11 M) (pM f)) (hmu13 : (if (x3).toInt = 1 then 10 - (x11).toInt else (x11).toInt + 2) ≤ d13) : Sf (mX2_walk_b249 k0 k1 ih13 x3 x5 x6 x7 x8 x9 x10 x11 y0 M) (pM f) := by
  unfold mX2_walk_b249
  have n_1 : ((0 : Int32)).toInt = 0 := rfl
  refine Sf.i (fun c_2 => ?_) (fun c_2 => ?_)
  · have c_2 := i_eq.mp c_2
    have n_3 : ((4 : Int32)).toInt = 4 := rfl
    try have a_4 : (((4 : Int32) - x5)).toInt = ((4 : Int32)).toInt - (x5).toInt := i_sub (by omega) (by omega)
    have b_5 : (0 : Int) ≤ (rd M k0 6).toInt ∧ (rd M k0 6).toInt ≤ 9 := h_M.at (bx_L0 hk0)
    exact (sX2_walk_b267 hk0 hk1 h_M ⟨by omega, by omega⟩ ⟨by omega, by omega⟩ ⟨by omega, by omega⟩ ⟨by omega, by omega⟩ ⟨by omega, by omega⟩ ⟨by omega, by omega⟩ ⟨by omega, by omega⟩ (by omega) hih13 (by omega))
  · have c_2 := i_ne c_2
    have b_6 : (0 : Int) ≤ (rd M k0 6).toInt ∧ (rd M k0 6).toInt ≤ 9 := h_M.at (bx_L0 hk0)
    exact (sX2_walk_b267 hk0 hk1 h_M ⟨by omega, by omega⟩ ⟨by omega, by omega⟩ ⟨by omega, by omega⟩ ⟨by omega, by omega⟩ ⟨by omega, by omega⟩ ⟨by omega, by omega⟩ ⟨by omega, by omega⟩ (by omega) hih13 (by omega))
set_option maxHeartbeats 2000000 in
theorem sX2_walk_b217 {f : Bx} {k0 : Nat} {k1 : Nat} {ih13 : Int32 → Int32 → Int32 → Int32 → Int32 → Int32 → Int32 → Int32 → Mem → Option (Mem × Unit)} {x3 : Int32} {x5 : Int32} {x6 : Int32} {x7 : Int32} {x8 : Int32} {x9 : Int32} {x10 : Int32} {x11 : Int32} {y0 : Int32} {M : Mem} {d13 : Nat} (hk0 : isL k0) (hk1 : isP k1) (h_M : OKb f M) (hx3 : (-1 : Int) ≤ (x3).toInt ∧ (x3).toInt ≤ 1) (hx5 : (1 : Int) ≤ (x5).toInt ∧ (x5).toInt ≤ 3) (hx6 : (0 : Int) ≤ (x6).toInt ∧ (x6).toInt ≤ 255) (hx10 : (0 : Int) ≤ (x10).toInt ∧ (x10).toInt ≤ 3) (hx11 : (0 : Int) ≤ (x11).toInt ∧ (x11).toInt ≤ 8) (hy0 : (-1 : Int) ≤ (y0).toInt ∧ (y0).toInt ≤ 8) (he0 : (1 : Int) ≤ (rd M k0 6).toInt ∧ (rd M k0 6).toInt ≤ 9) (hr0 : ((x3).toInt = 1 ∨ (x3).toInt = -1)) (hih13 : ∀ (yx3 : Int32) (yx5 : Int32) (yx6 : Int32) (yx7 : Int32) (yx8 : Int32) (yx9 : Int32) (yx10 : Int32) (yx11 : Int32) (M : Mem), OKb f M → ((-1 : Int) ≤ (yx3).toInt ∧ (yx3).toInt ≤ 1) → ((1 : Int) ≤ (yx5).toInt ∧ (yx5).toInt ≤ 3) → ((0 : Int) ≤ (yx6).toInt ∧ (yx6).toInt ≤ 255) → ((0 : Int) ≤ (yx10).toInt ∧ (yx10).toInt ≤ 3) → ((-1 : Int) ≤ (yx11).toInt ∧ (yx11).toInt ≤ 9) → (((yx3).toInt = 1 ∨ (yx3).toInt = -1)) → (if (yx3).toInt = 1 then 10 - (yx11).toInt else (yx11).toInt + 2) < d13 → Sf (ih13 yx3 yx5 yx6 yx7 yx8 yx9 yx10 yx11 M) (pM f)) (hmu13 : (if (x3).toInt = 1 then 10 - (x11).toInt else (x11).toInt + 2) ≤ d13) : Sf (mX2_walk_b217 k0 k1 ih13 x3 x5 x6 x7 x8 x9 x10 x11 y0 M) (pM f) := by
  unfold mX2_walk_b217
  have n_1 : ((0 : Int32)).toInt = 0 := rfl
  refine Sf.i (fun c_2 => ?_) (fun c_2 => ?_)
  · have c_2 := i_lt.mp c_2
    have b_3 : (0 : Int) ≤ (rd M k0 6).toInt ∧ (rd M k0 6).toInt ≤ 9 := h_M.at (bx_L0 hk0)
    exact (sX2_walk_b272 hk0 hk1 h_M ⟨by omega, by omega⟩ ⟨by omega, by omega⟩ ⟨by omega, by omega⟩ ⟨by omega, by omega⟩ ⟨by omega, by omega⟩ ⟨by omega, by omega⟩ (by omega) hih13 (by omega))
  · have c_2 := i_nlt c_2
    try have a_4 := i_shr (a := x6) (b := y0) (by omega)
    have n_5 : ((1 : Int32)).toInt = 1 := rfl
    try have a_6 := i_and (a := (x6 >>> (y0 &&& 31))) (b := (1 : Int32)) (by omega)
    try have a_7 := i_andr (a := (x6 >>> (y0 &&& 31))) (b := (1 : Int32)) (by omega)
    refine Sf.i (fun c_8 => ?_) (fun c_8 => ?_)
    · have c_8 := i_eq.mp c_8
      have b_9 : (0 : Int) ≤ (rd M k0 6).toInt ∧ (rd M k0 6).toInt ≤ 9 := h_M.at (bx_L0 hk0)
      exact (sX2_walk_b272 hk0 hk1 h_M ⟨by omega, by omega⟩ ⟨by omega, by omega⟩ ⟨by omega, by omega⟩ ⟨by omega, by omega⟩ ⟨by omega, by omega⟩ ⟨by omega, by omega⟩ (by omega) hih13 (by omega))
    · have c_8 := i_ne c_8
      try have a_10 := i_andr (a := (x7 >>> (y0 &&& 31))) (b := (1 : Int32)) (by omega)
      refine Sf.i (fun c_11 => ?_) (fun c_11 => ?_)
      · have c_11 := i_eq.mp c_11
        have n_12 : ((0 : Int32)).toInt = 0 := rfl
        have b_13 : (0 : Int) ≤ (rd M k0 6).toInt ∧ (rd M k0 6).toInt ≤ 9 := h_M.at (bx_L0 hk0)
        exact (sX2_walk_b249 hk0 hk1 h_M ⟨by omega, by omega⟩ ⟨by omega, by omega⟩ ⟨by omega, by omega⟩ ⟨by omega, by omega⟩ ⟨by omega, by omega⟩ ⟨by omega, by omega⟩ ⟨by omega, by omega⟩ (by omega) hih13 (by omega))
      · have c_11 := i_ne c_11
        have b_14 : (0 : Int) ≤ (rd M k0 6).toInt ∧ (rd M k0 6).toInt ≤ 9 := h_M.at (bx_L0 hk0)
        exact (sX2_walk_b249 hk0 hk1 h_M ⟨by omega, by omega⟩ ⟨by omega, by omega⟩ ⟨by omega, by omega⟩ ⟨by omega, by omega⟩ ⟨by omega, by omega⟩ ⟨by omega, by omega⟩ ⟨by omega, by omega⟩ (by omega) hih13 (by omega))
set_option maxHeartbeats 2000000 in
theorem sX2_walk_b108 {f : Bx} {k0 : Nat} {k1 : Nat} {ih13 : Int32 → Int32 → Int32 → Int32 → Int32 → Int32 → Int32 → Int32 → Mem → Option (Mem × Unit)} {x3 : Int32} {x5 : Int32} {x6 : Int32} {x7 : Int32} {x8 : Int32} {x9 : Int32} {x10 : Int32} {x11 : Int32} {y1 : Int32} {y2 : Int32} {y3 : Int32} {M : Mem} {d13 : Nat} (hk0 : isL k0) (hk1 : isP k1) (h_M : OKb f M) (hx3 : (-1 : Int) ≤ (x3).toInt ∧ (x3).toInt ≤ 1) (hx5 : (1 : Int) ≤ (x5).toInt ∧ (x5).toInt ≤ 3) (hx6 : (0 : Int) ≤ (x6).toInt ∧ (x6).toInt ≤ 255) (hx10 : (0 : Int) ≤ (x10).toInt ∧ (x10).toInt ≤ 3) (hx11 : (0 : Int) ≤ (x11).toInt ∧ (x11).toInt ≤ 8) (hy1 : (0 : Int) ≤ (y1).toInt ∧ (y1).toInt ≤ 8) (hy3 : (-9999 : Int) ≤ (y3).toInt ∧ (y3).toInt ≤ 9999) (he0 : (1 : Int) ≤ (rd M k0 6).toInt ∧ (rd M k0 6).toInt ≤ 9) (hr0 : ((x3).toInt = 1 ∨ (x3).toInt = -1)) (hih13 : ∀ (yx3 : Int32) (yx5 : Int32) (yx6 : Int32) (yx7 : Int32) (yx8 : Int32) (yx9 : Int32) (yx10 : Int32) (yx11 : Int32) (M : Mem), OKb f M → ((-1 : Int) ≤ (yx3).toInt ∧ (yx3).toInt ≤ 1) → ((1 : Int) ≤ (yx5).toInt ∧ (yx5).toInt ≤ 3) → ((0 : Int) ≤ (yx6).toInt ∧ (yx6).toInt ≤ 255) → ((0 : Int) ≤ (yx10).toInt ∧ (yx10).toInt ≤ 3) → ((-1 : Int) ≤ (yx11).toInt ∧ (yx11).toInt ≤ 9) → (((yx3).toInt = 1 ∨ (yx3).toInt = -1)) → (if (yx3).toInt = 1 then 10 - (yx11).toInt else (yx11).toInt + 2) < d13 → Sf (ih13 yx3 yx5 yx6 yx7 yx8 yx9 yx10 yx11 M) (pM f)) (hmu13 : (if (x3).toInt = 1 then 10 - (x11).toInt else (x11).toInt + 2) ≤ d13) : Sf (mX2_walk_b108 k0 k1 ih13 x3 x5 x6 x7 x8 x9 x10 x11 y1 y2 y3 M) (pM f) := by
  unfold mX2_walk_b108
  refine Sf.k (ok_in (by omega) (by omega)) ?_
  refine Sf.b (fun M15 e_M15 => ?_)
  have h_M15 : OKb f M15 := by rw [e_M15]; exact h_M.put (bx_L (c := 2) hk0 (by omega)) (i_rng _)
  refine Sf.k (ok_in (by omega) (by omega)) ?_
  refine Sf.k (ok_in (by omega) (by omega)) ?_
  refine Sf.b (fun M19 e_M19 => ?_)
  have h_M19 : OKb f M19 := by rw [e_M19]; exact h_M15.put (bx_L (c := 3) hk0 (by omega)) (i_rng _)
  refine Sf.k (ok_in (by omega) (by omega)) ?_
  refine Sf.k (ok_in (by omega) (by omega)) ?_
  refine Sf.b (fun M23 e_M23 => ?_)
  have h_M23 : OKb f M23 := by rw [e_M23]; exact h_M19.put (bx_L (c := 4) hk0 (by omega)) (i_rng _)
  refine Sf.k (ok_in (by omega) (by omega)) ?_
  refine Sf.k (ok_in (by omega) (by omega)) ?_
  refine Sf.b (fun M27 e_M27 => ?_)
  have h_M27 : OKb f M27 := by rw [e_M27]; exact h_M23.put (bx_L (c := 5) hk0 (by omega)) (i_rng _)
  refine Sf.k (ok_in (by omega) (by omega)) ?_
  refine Sf.k (ok_in (by omega) (by omega)) ?_
  refine Sf.b (fun M31 e_M31 => ?_)
  have h_M31 : OKb f M31 := by rw [e_M31]; exact h_M27.put (bx_L (c := 6) hk0 (by omega)) (i_rng _)
  refine Sf.k (ok_in (by omega) (by omega)) ?_
  have w_1 : (rd M31 (k0 + 1) ((x11).toNatClampNeg)).toInt = (rd M27 (k0 + 1) ((x11).toNatClampNeg)).toInt := by rw [e_M31, rd_wk (by omega)]
  have w_2 : (rd M27 (k0 + 1) ((x11).toNatClampNeg)).toInt = (rd M23 (k0 + 1) ((x11).toNatClampNeg)).toInt := by rw [e_M27, rd_wk (by omega)]
  have w_3 : (rd M23 (k0 + 1) ((x11).toNatClampNeg)).toInt = (rd M19 (k0 + 1) ((x11).toNatClampNeg)).toInt := by rw [e_M23, rd_wk (by omega)]
  have w_4 : (rd M19 (k0 + 1) ((x11).toNatClampNeg)).toInt = (rd M15 (k0 + 1) ((x11).toNatClampNeg)).toInt := by rw [e_M19, rd_wk (by omega)]
  have w_5 : (rd M15 (k0 + 1) ((x11).toNatClampNeg)).toInt = (rd M (k0 + 1) ((x11).toNatClampNeg)).toInt := by rw [e_M15, rd_wk (by omega)]
  refine Sf.b (fun x8_193 e_x8_193 => ?_)
  have d_x8_193 := congrArg Int32.toInt e_x8_193
  refine Sf.k (ok_in (by omega) (by omega)) ?_
  have w_6 : (rd M31 (k0 + 2) ((x11).toNatClampNeg)).toInt = (rd M27 (k0 + 2) ((x11).toNatClampNeg)).toInt := by rw [e_M31, rd_wk (by omega)]
  have w_7 : (rd M27 (k0 + 2) ((x11).toNatClampNeg)).toInt = (rd M23 (k0 + 2) ((x11).toNatClampNeg)).toInt := by rw [e_M27, rd_wk (by omega)]
  have w_8 : (rd M23 (k0 + 2) ((x11).toNatClampNeg)).toInt = (rd M19 (k0 + 2) ((x11).toNatClampNeg)).toInt := by rw [e_M23, rd_wk (by omega)]
  have w_9 : (rd M19 (k0 + 2) ((x11).toNatClampNeg)).toInt = (rd M15 (k0 + 2) ((x11).toNatClampNeg)).toInt := by rw [e_M19, rd_wk (by omega)]
  refine Sf.b (fun x9_202 e_x9_202 => ?_)
  have d_x9_202 := congrArg Int32.toInt e_x9_202
  have n_11 : ((0 : Int32)).toInt = 0 := rfl
  refine Sf.i (fun c_12 => ?_) (fun c_12 => ?_)
  · have c_12 := i_le.mp c_12
    have n_13 : ((1 : Int32)).toInt = 1 := rfl
    try have a_14 : ((x11 - (1 : Int32))).toInt = (x11).toInt - ((1 : Int32)).toInt := i_sub (by omega) (by omega)
    have w_15 : (rd M31 k0 6).toInt = (rd M27 k0 6).toInt := by rw [e_M31, rd_wk (by omega)]
    have w_16 : (rd M27 k0 6).toInt = (rd M23 k0 6).toInt := by rw [e_M27, rd_wk (by omega)]
    have w_17 : (rd M23 k0 6).toInt = (rd M19 k0 6).toInt := by rw [e_M23, rd_wk (by omega)]
    have w_18 : (rd M19 k0 6).toInt = (rd M15 k0 6).toInt := by rw [e_M19, rd_wk (by omega)]
    have w_19 : (rd M15 k0 6).toInt = (rd M k0 6).toInt := by rw [e_M15, rd_wk (by omega)]
    have b_20 : (0 : Int) ≤ (rd M k0 6).toInt ∧ (rd M k0 6).toInt ≤ 9 := h_M.at (bx_L0 hk0)
    exact (sX2_walk_b217 hk0 hk1 h_M31 ⟨by omega, by omega⟩ ⟨by omega, by omega⟩ ⟨by omega, by omega⟩ ⟨by omega, by omega⟩ ⟨by omega, by omega⟩ ⟨by omega, by omega⟩ ⟨by omega, by omega⟩ (by omega) hih13 (by omega))
  · have c_12 := i_nle c_12
    have w_21 : (rd M31 k0 6).toInt = (rd M27 k0 6).toInt := by rw [e_M31, rd_wk (by omega)]
    have w_22 : (rd M27 k0 6).toInt = (rd M23 k0 6).toInt := by rw [e_M27, rd_wk (by omega)]
    have w_23 : (rd M23 k0 6).toInt = (rd M19 k0 6).toInt := by rw [e_M23, rd_wk (by omega)]
    have w_24 : (rd M19 k0 6).toInt = (rd M15 k0 6).toInt := by rw [e_M19, rd_wk (by omega)]
    have w_25 : (rd M15 k0 6).toInt = (rd M k0 6).toInt := by rw [e_M15, rd_wk (by omega)]
    have b_26 : (0 : Int) ≤ (rd M k0 6).toInt ∧ (rd M k0 6).toInt ≤ 9 := h_M.at (bx_L0 hk0)
    exact (sX2_walk_b217 hk0 hk1 h_M31 ⟨by omega, by omega⟩ ⟨by omega, by omega⟩ ⟨by omega, by omega⟩ ⟨by omega, by omega⟩ ⟨by omega, by omega⟩ ⟨by omega, by omega⟩ ⟨by omega, by omega⟩ (by omega) hih13 (by omega))
set_option maxHeartbeats 2000000 in
theorem sX2_walk_b75 {f : Bx} {k0 : Nat} {k1 : Nat} {ih13 : Int32 → Int32 → Int32 → Int32 → Int32 → Int32 → Int32 → Int32 → Mem → Option (Mem × Unit)} {x3 : Int32} {x5 : Int32} {x6 : Int32} {x7 : Int32} {x8 : Int32} {x9 : Int32} {x10 : Int32} {x11 : Int32} {x12 : Int32} {y1 : Int32} {y2 : Int32} {y3 : Int32} {M : Mem} {d13 : Nat} (hk0 : isL k0) (hk1 : isP k1) (h_M : OKb f M) (hx3 : (-1 : Int) ≤ (x3).toInt ∧ (x3).toInt ≤ 1) (hx5 : (1 : Int) ≤ (x5).toInt ∧ (x5).toInt ≤ 3) (hx6 : (0 : Int) ≤ (x6).toInt ∧ (x6).toInt ≤ 255) (hx10 : (0 : Int) ≤ (x10).toInt ∧ (x10).toInt ≤ 3) (hx11 : (0 : Int) ≤ (x11).toInt ∧ (x11).toInt ≤ 8) (hx12 : (0 : Int) ≤ (x12).toInt ∧ (x12).toInt ≤ 9999) (hy1 : (0 : Int) ≤ (y1).toInt ∧ (y1).toInt ≤ 8) (hy3 : (-9999 : Int) ≤ (y3).toInt ∧ (y3).toInt ≤ 9999) (he0 : (1 : Int) ≤ (rd M k0 6).toInt ∧ (rd M k0 6).toInt ≤ 9) (hr0 : ((x3).toInt = 1 ∨ (x3).toInt = -1)) (hih13 : ∀ (yx3 : Int32) (yx5 : Int32) (yx6 : Int32) (yx7 : Int32) (yx8 : Int32) (yx9 : Int32) (yx10 : Int32) (yx11 : Int32) (M : Mem), OKb f M → ((-1 : Int) ≤ (yx3).toInt ∧ (yx3).toInt ≤ 1) → ((1 : Int) ≤ (yx5).toInt ∧ (yx5).toInt ≤ 3) → ((0 : Int) ≤ (yx6).toInt ∧ (yx6).toInt ≤ 255) → ((0 : Int) ≤ (yx10).toInt ∧ (yx10).toInt ≤ 3) → ((-1 : Int) ≤ (yx11).toInt ∧ (yx11).toInt ≤ 9) → (((yx3).toInt = 1 ∨ (yx3).toInt = -1)) → (if (yx3).toInt = 1 then 10 - (yx11).toInt else (yx11).toInt + 2) < d13 → Sf (ih13 yx3 yx5 yx6 yx7 yx8 yx9 yx10 yx11 M) (pM f)) (hmu13 : (if (x3).toInt = 1 then 10 - (x11).toInt else (x11).toInt + 2) ≤ d13) : Sf (mX2_walk_b75 k0 k1 ih13 x3 x5 x6 x7 x8 x9 x10 x11 x12 y1 y2 y3 M) (pM f) := by
  unfold mX2_walk_b75
  refine Sf.k (ok_in (by omega) (by omega)) ?_
  refine Sf.b (fun M10 e_M10 => ?_)
  have h_M10 : OKb f M10 := by rw [e_M10]; exact h_M.put (bx_L (c := 1) hk0 (by omega)) (i_rng _)
  have n_1 : ((0 : Int32)).toInt = 0 := rfl
  refine Sf.i (fun c_2 => ?_) (fun c_2 => ?_)
  · have c_2 := i_eq.mp c_2
    have w_3 : (rd M10 k0 6).toInt = (rd M k0 6).toInt := by rw [e_M10, rd_wk (by omega)]
    have b_4 : (0 : Int) ≤ (rd M k0 6).toInt ∧ (rd M k0 6).toInt ≤ 9 := h_M.at (bx_L0 hk0)
    exact (sX2_walk_b108 hk0 hk1 h_M10 ⟨by omega, by omega⟩ ⟨by omega, by omega⟩ ⟨by omega, by omega⟩ ⟨by omega, by omega⟩ ⟨by omega, by omega⟩ ⟨by omega, by omega⟩ ⟨by omega, by omega⟩ ⟨by omega, by omega⟩ (by omega) hih13 (by omega))
  · have c_2 := i_ne c_2
    have n_5 : ((2 : Int32)).toInt = 2 := rfl
    refine Sf.i (fun c_6 => ?_) (fun c_6 => ?_)
    · have c_6 := i_eq.mp c_6
      try have a_7 := i_neg (a := x12) (by omega)
      have w_8 : (rd M10 k0 6).toInt = (rd M k0 6).toInt := by rw [e_M10, rd_wk (by omega)]
      have b_9 : (0 : Int) ≤ (rd M k0 6).toInt ∧ (rd M k0 6).toInt ≤ 9 := h_M.at (bx_L0 hk0)
      exact (sX2_walk_b108 hk0 hk1 h_M10 ⟨by omega, by omega⟩ ⟨by omega, by omega⟩ ⟨by omega, by omega⟩ ⟨by omega, by omega⟩ ⟨by omega, by omega⟩ ⟨by omega, by omega⟩ ⟨by omega, by omega⟩ ⟨by omega, by omega⟩ (by omega) hih13 (by omega))
    · have c_6 := i_ne c_6
      have n_10 : ((0 : Int32)).toInt = 0 := rfl
      have w_11 : (rd M10 k0 6).toInt = (rd M k0 6).toInt := by rw [e_M10, rd_wk (by omega)]
      have b_12 : (0 : Int) ≤ (rd M k0 6).toInt ∧ (rd M k0 6).toInt ≤ 9 := h_M.at (bx_L0 hk0)
      exact (sX2_walk_b108 hk0 hk1 h_M10 ⟨by omega, by omega⟩ ⟨by omega, by omega⟩ ⟨by omega, by omega⟩ ⟨by omega, by omega⟩ ⟨by omega, by omega⟩ ⟨by omega, by omega⟩ ⟨by omega, by omega⟩ ⟨by omega, by omega⟩ (by omega) hih13 (by omega))
set_option maxHeartbeats 2000000 in
theorem sX2_walk_b13 {f : Bx} {k0 : Nat} {k1 : Nat} {ih13 : Int32 → Int32 → Int32 → Int32 → Int32 → Int32 → Int32 → Int32 → Mem → Option (Mem × Unit)} {x3 : Int32} {x5 : Int32} {x6 : Int32} {x7 : Int32} {x8 : Int32} {x9 : Int32} {x10 : Int32} {x11 : Int32} {M : Mem} {d13 : Nat} (hk0 : isL k0) (hk1 : isP k1) (h_M : OKb f M) (hx3 : (-1 : Int) ≤ (x3).toInt ∧ (x3).toInt ≤ 1) (hx5 : (1 : Int) ≤ (x5).toInt ∧ (x5).toInt ≤ 3) (hx6 : (0 : Int) ≤ (x6).toInt ∧ (x6).toInt ≤ 255) (hx10 : (0 : Int) ≤ (x10).toInt ∧ (x10).toInt ≤ 3) (hx11 : (-1 : Int) ≤ (x11).toInt ∧ (x11).toInt ≤ 9) (hr0 : ((x3).toInt = 1 ∨ (x3).toInt = -1)) (hih13 : ∀ (yx3 : Int32) (yx5 : Int32) (yx6 : Int32) (yx7 : Int32) (yx8 : Int32) (yx9 : Int32) (yx10 : Int32) (yx11 : Int32) (M : Mem), OKb f M → ((-1 : Int) ≤ (yx3).toInt ∧ (yx3).toInt ≤ 1) → ((1 : Int) ≤ (yx5).toInt ∧ (yx5).toInt ≤ 3) → ((0 : Int) ≤ (yx6).toInt ∧ (yx6).toInt ≤ 255) → ((0 : Int) ≤ (yx10).toInt ∧ (yx10).toInt ≤ 3) → ((-1 : Int) ≤ (yx11).toInt ∧ (yx11).toInt ≤ 9) → (((yx3).toInt = 1 ∨ (yx3).toInt = -1)) → (if (yx3).toInt = 1 then 10 - (yx11).toInt else (yx11).toInt + 2) < d13 → Sf (ih13 yx3 yx5 yx6 yx7 yx8 yx9 yx10 yx11 M) (pM f)) (hmu13 : (if (x3).toInt = 1 then 10 - (x11).toInt else (x11).toInt + 2) ≤ d13) : Sf (mX2_walk_b13 k0 k1 ih13 x3 x5 x6 x7 x8 x9 x10 x11 M) (pM f) := by
  unfold mX2_walk_b13
  have n_1 : ((0 : Int32)).toInt = 0 := rfl
  refine Sf.i (fun c_2 => ?_) (fun c_2 => ?_)
  · have c_2 := i_lt.mp c_2
    exact Sf.ok h_M
  · have c_2 := i_nlt c_2
    have b_3 : (0 : Int) ≤ (rd M k0 6).toInt ∧ (rd M k0 6).toInt ≤ 9 := h_M.at (bx_L0 hk0)
    refine Sf.i (fun c_4 => ?_) (fun c_4 => ?_)
    · have c_4 := i_le.mp c_4
      exact Sf.ok h_M
    · have c_4 := i_nle c_4
      have n_5 : ((9 : Int32)).toInt = 9 := rfl
      refine Sf.i (fun c_6 => ?_) (fun c_6 => ?_)
      · have c_6 := i_le.mp c_6
        exfalso; omega
      · have c_6 := i_nle c_6
        refine Sf.k (ok_in (by omega) (by omega)) ?_
        have b_7 : (0 : Int) ≤ (rd M (k1 + 1) ((x11).toNatClampNeg)).toInt ∧ (rd M (k1 + 1) ((x11).toNatClampNeg)).toInt ≤ 9999 := h_M.at (bx_P (c := 1) hk1 (by omega))
        refine Sf.b (fun x12_41 e_x12_41 => ?_)
        have d_x12_41 := congrArg Int32.toInt e_x12_41
        have n_8 : ((1 : Int32)).toInt = 1 := rfl
        refine Sf.i (fun c_9 => ?_) (fun c_9 => ?_)
        · have c_9 := i_eq.mp c_9
          exact (sX2_walk_b75 hk0 hk1 h_M ⟨by omega, by omega⟩ ⟨by omega, by omega⟩ ⟨by omega, by omega⟩ ⟨by omega, by omega⟩ ⟨by omega, by omega⟩ ⟨by omega, by omega⟩ ⟨by omega, by omega⟩ ⟨by omega, by omega⟩ ⟨by omega, by omega⟩ (by omega) hih13 (by omega))
        · have c_9 := i_ne c_9
          have n_10 : ((3 : Int32)).toInt = 3 := rfl
          refine Sf.i (fun c_11 => ?_) (fun c_11 => ?_)
          · have c_11 := i_eq.mp c_11
            try have a_12 := i_neg (a := x12_41) (by omega)
            exact (sX2_walk_b75 hk0 hk1 h_M ⟨by omega, by omega⟩ ⟨by omega, by omega⟩ ⟨by omega, by omega⟩ ⟨by omega, by omega⟩ ⟨by omega, by omega⟩ ⟨by omega, by omega⟩ ⟨by omega, by omega⟩ ⟨by omega, by omega⟩ ⟨by omega, by omega⟩ (by omega) hih13 (by omega))
          · have c_11 := i_ne c_11
            have n_13 : ((0 : Int32)).toInt = 0 := rfl
            exact (sX2_walk_b75 hk0 hk1 h_M ⟨by omega, by omega⟩ ⟨by omega, by omega⟩ ⟨by omega, by omega⟩ ⟨by omega, by omega⟩ ⟨by omega, by omega⟩ ⟨by omega, by omega⟩ ⟨by omega, by omega⟩ ⟨by omega, by omega⟩ ⟨by omega, by omega⟩ (by omega) hih13 (by omega))
theorem sX2_walk_l13_n {f : Bx} {k0 : Nat} (hk0 : isL k0) {k1 : Nat} (hk1 : isP k1)   : ∀ (n : Nat) (x3 : Int32) (x5 : Int32) (x6 : Int32) (x7 : Int32) (x8 : Int32) (x9 : Int32) (x10 : Int32) (x11 : Int32) (M : Mem) (h_M : OKb f M) (hx3 : (-1 : Int) ≤ (x3).toInt ∧ (x3).toInt ≤ 1) (hx5 : (1 : Int) ≤ (x5).toInt ∧ (x5).toInt ≤ 3) (hx6 : (0 : Int) ≤ (x6).toInt ∧ (x6).toInt ≤ 255) (hx10 : (0 : Int) ≤ (x10).toInt ∧ (x10).toInt ≤ 3) (hx11 : (-1 : Int) ≤ (x11).toInt ∧ (x11).toInt ≤ 9)  (hr0 : ((x3).toInt = 1 ∨ (x3).toInt = -1))  (hmu : (if (x3).toInt = 1 then 10 - (x11).toInt else (x11).toInt + 2) < n), Sf (mX2_walk_l13 k0 k1 n x3 x5 x6 x7 x8 x9 x10 x11 M) (pM f) := by
  intro n
  induction n with
  | zero => intro x3 x5 x6 x7 x8 x9 x10 x11 M h_M hx3 hx5 hx6 hx10 hx11 hr0 hmu; exfalso; omega
  | succ n IH => intro x3 x5 x6 x7 x8 x9 x10 x11 M h_M hx3 hx5 hx6 hx10 hx11 hr0 hmu; exact sX2_walk_b13 hk0 hk1 h_M hx3 hx5 hx6 hx10 hx11  hr0  IH (by omega)
theorem sX2_walk_l13 {f : Bx} {k0 : Nat} (hk0 : isL k0) {k1 : Nat} (hk1 : isP k1) {x3 : Int32} {x5 : Int32} {x6 : Int32} {x7 : Int32} {x8 : Int32} {x9 : Int32} {x10 : Int32} {x11 : Int32} {M : Mem}  (h_M : OKb f M) (hx3 : (-1 : Int) ≤ (x3).toInt ∧ (x3).toInt ≤ 1) (hx5 : (1 : Int) ≤ (x5).toInt ∧ (x5).toInt ≤ 3) (hx6 : (0 : Int) ≤ (x6).toInt ∧ (x6).toInt ≤ 255) (hx10 : (0 : Int) ≤ (x10).toInt ∧ (x10).toInt ≤ 3) (hx11 : (-1 : Int) ≤ (x11).toInt ∧ (x11).toInt ≤ 9)  (hr0 : ((x3).toInt = 1 ∨ (x3).toInt = -1))  (hmu : (if (x3).toInt = 1 then 10 - (x11).toInt else (x11).toInt + 2) < 5000) : Sf (mX2_walk_l13 k0 k1 5000 x3 x5 x6 x7 x8 x9 x10 x11 M) (pM f) :=
  sX2_walk_l13_n hk0 hk1  5000 _ _ _ _ _ _ _ _ M h_M hx3 hx5 hx6 hx10 hx11  hr0  hmu
set_option maxHeartbeats 2000000 in
theorem sX2_walk {f : Bx} {k0 : Nat} {k1 : Nat} {x2 : Int32} {x3 : Int32} {x4 : Int32} {x5 : Int32} {x6 : Int32} {x7 : Int32} {M : Mem} (hk0 : isL k0) (hk1 : isP k1) (h_M : OKb f M) (hx2 : (0 : Int) ≤ (x2).toInt ∧ (x2).toInt ≤ 8) (hx3 : (-1 : Int) ≤ (x3).toInt ∧ (x3).toInt ≤ 1) (hx4 : (0 : Int) ≤ (x4).toInt ∧ (x4).toInt ≤ 3) (hx5 : (1 : Int) ≤ (x5).toInt ∧ (x5).toInt ≤ 3) (hx6 : (0 : Int) ≤ (x6).toInt ∧ (x6).toInt ≤ 255) (hxx : (x3).toInt = 1 ∨ (x3).toInt = -1) : Sf (mX2_walk k0 k1 x2 x3 x4 x5 x6 x7 M) (pM f) := by
  unfold mX2_walk
  exact (sX2_walk_l13 hk0 hk1 h_M ⟨by omega, by omega⟩ ⟨by omega, by omega⟩ ⟨by omega, by omega⟩ ⟨by omega, by omega⟩ ⟨by omega, by omega⟩ (by omega) (by omega))
set_option maxHeartbeats 2000000 in
theorem sX2_layFinished {f : Bx} {k0 : Nat} {k1 : Nat} {M : Mem} (hk0 : isL k0) (hk1 : isP k1) (h_M : OKb f M) : Sf (mX2_layFinished k0 k1 M) (pM f) := by
  unfold mX2_layFinished
  have b_1 : (0 : Int) ≤ (rd M k1 0).toInt ∧ (rd M k1 0).toInt ≤ 9 := h_M.at (bx_P0 hk1)
  have z_2 : (0 : Int) ≤ ((rd M k1 0)).toInt ∧ ((rd M k1 0)).toInt ≤ 9 := ⟨by omega, by omega⟩
  refine Sf.b (fun M1 e_M1 => ?_)
  have h_M1 : OKb f M1 := by rw [e_M1]; exact h_M.put (bx_L0 hk0) z_2
  refine Sf.c (sX1_allBends hk1 h_M1) (fun r4 p_3 => ?_)
  obtain ⟨p_3a, p_3b⟩ := p_3
  have n_4 : ((0 : Int32)).toInt = 0 := rfl
  have n_5 : ((1 : Int32)).toInt = 1 := rfl
  have n_6 : ((3 : Int32)).toInt = 3 := rfl
  have b_8 : (0 : Int) ≤ (rd M1 k1 2).toInt ∧ (rd M1 k1 2).toInt ≤ 255 := h_M1.at (bx_P0 hk1)
  refine Sf.m (sX2_walk hk0 hk1 h_M1 ⟨by omega, by omega⟩ ⟨by omega, by omega⟩ ⟨by omega, by omega⟩ ⟨by omega, by omega⟩ ⟨by omega, by omega⟩ (by omega)) (fun M8 _ h_M8 => ?_)
  have h_M8 : OKb f M8 := h_M8
  exact Sf.ok h_M8
set_option maxHeartbeats 2000000 in
theorem sX2_layStep_b27 {f : Bx} {k0 : Nat} {k1 : Nat} {x2 : Int32} {x3 : Int32} {x4 : Int32} {y0 : Int32} {M : Mem} (hk0 : isL k0) (hk1 : isP k1) (h_M : OKb f M) (hx2 : (0 : Int) ≤ (x2).toInt ∧ (x2).toInt ≤ 255) (hx3 : (0 : Int) ≤ (x3).toInt ∧ (x3).toInt ≤ 15) (hx4 : (0 : Int) ≤ (x4).toInt ∧ (x4).toInt ≤ 7) : Sf (mX2_layStep_b27 k0 k1 x2 x3 x4 y0 M) (pM f) := by
  unfold mX2_layStep_b27
  have b_1 : (0 : Int) ≤ (rd M k1 0).toInt ∧ (rd M k1 0).toInt ≤ 9 := h_M.at (bx_P0 hk1)
  have z_2 : (0 : Int) ≤ ((rd M k1 0)).toInt ∧ ((rd M k1 0)).toInt ≤ 9 := ⟨by omega, by omega⟩
  refine Sf.b (fun M6 e_M6 => ?_)
  have h_M6 : OKb f M6 := by rw [e_M6]; exact h_M.put (bx_L0 hk0) z_2
  have n_3 : ((1 : Int32)).toInt = 1 := rfl
  try have a_4 := i_and (a := x3) (b := (1 : Int32)) (by omega)
  try have a_5 := i_andr (a := x3) (b := (1 : Int32)) (by omega)
  have n_6 : ((0 : Int32)).toInt = 0 := rfl
  refine Sf.i (fun c_7 => ?_) (fun c_7 => ?_)
  · have c_7 := i_eq.mp c_7
    have n_8 : ((0 : Int32)).toInt = 0 := rfl
    have z_9 : (0 : Int) ≤ ((0 : Int32)).toInt ∧ ((0 : Int32)).toInt ≤ 8 := ⟨by omega, by omega⟩
    refine Sf.b (fun M19 e_M19 => ?_)
    have h_M19 : OKb f M19 := by rw [e_M19]; exact h_M6.put (bx_L0 hk0) z_9
    have z_10 : (-1 : Int) ≤ (x4).toInt ∧ (x4).toInt ≤ 8 := ⟨by omega, by omega⟩
    refine Sf.b (fun M21 e_M21 => ?_)
    have h_M21 : OKb f M21 := by rw [e_M21]; exact h_M19.put (bx_L0 hk0) z_10
    have n_11 : (((-1) : Int32)).toInt = -1 := rfl
    have n_12 : ((3 : Int32)).toInt = 3 := rfl
    refine Sf.m (sX2_walk hk0 hk1 h_M21 ⟨by omega, by omega⟩ ⟨by omega, by omega⟩ ⟨by omega, by omega⟩ ⟨by omega, by omega⟩ ⟨by omega, by omega⟩ (by omega)) (fun M25 _ h_M25 => ?_)
    have h_M25 : OKb f M25 := h_M25
    try have a_14 : ((x4 + (1 : Int32))).toInt = (x4).toInt + ((1 : Int32)).toInt := i_add (by omega) (by omega)
    refine Sf.m (sX2_walk hk0 hk1 h_M25 ⟨by omega, by omega⟩ ⟨by omega, by omega⟩ ⟨by omega, by omega⟩ ⟨by omega, by omega⟩ ⟨by omega, by omega⟩ (by omega)) (fun M28 _ h_M28 => ?_)
    have h_M28 : OKb f M28 := h_M28
    exact Sf.ok h_M28
  · have c_7 := i_ne c_7
    try have a_16 : ((x4 + (1 : Int32))).toInt = (x4).toInt + ((1 : Int32)).toInt := i_add (by omega) (by omega)
    have z_17 : (0 : Int) ≤ ((x4 + (1 : Int32))).toInt ∧ ((x4 + (1 : Int32))).toInt ≤ 8 := ⟨by omega, by omega⟩
    refine Sf.b (fun M9 e_M9 => ?_)
    have h_M9 : OKb f M9 := by rw [e_M9]; exact h_M6.put (bx_L0 hk0) z_17
    have w_18 : (rd M9 k0 6).toInt = (rd M6 k0 6).toInt := by rw [e_M9, rd_wj (by decide)]
    have w_19 : (rd M6 k0 6).toInt = ((rd M k1 0)).toInt := by rw [e_M6, rd_we]
    try have a_20 : (((rd M9 k0 6) - (1 : Int32))).toInt = ((rd M9 k0 6)).toInt - ((1 : Int32)).toInt := i_sub (by omega) (by omega)
    have z_21 : (-1 : Int) ≤ (((rd M9 k0 6) - (1 : Int32))).toInt ∧ (((rd M9 k0 6) - (1 : Int32))).toInt ≤ 8 := ⟨by omega, by omega⟩
    refine Sf.b (fun M11 e_M11 => ?_)
    have h_M11 : OKb f M11 := by rw [e_M11]; exact h_M9.put (bx_L0 hk0) z_21
    have n_22 : ((3 : Int32)).toInt = 3 := rfl
    refine Sf.m (sX2_walk hk0 hk1 h_M11 ⟨by omega, by omega⟩ ⟨by omega, by omega⟩ ⟨by omega, by omega⟩ ⟨by omega, by omega⟩ ⟨by omega, by omega⟩ (by omega)) (fun M15 _ h_M15 => ?_)
    have h_M15 : OKb f M15 := h_M15
    have n_24 : (((-1) : Int32)).toInt = -1 := rfl
    have n_25 : ((0 : Int32)).toInt = 0 := rfl
    refine Sf.m (sX2_walk hk0 hk1 h_M15 ⟨by omega, by omega⟩ ⟨by omega, by omega⟩ ⟨by omega, by omega⟩ ⟨by omega, by omega⟩ ⟨by omega, by omega⟩ (by omega)) (fun M18 _ h_M18 => ?_)
    have h_M18 : OKb f M18 := h_M18
    exact Sf.ok h_M18
set_option maxHeartbeats 2000000 in
theorem sX2_layStep {f : Bx} {k0 : Nat} {k1 : Nat} {x2 : Int32} {x3 : Int32} {M : Mem} (hk0 : isL k0) (hk1 : isP k1) (h_M : OKb f M) (hx2 : (0 : Int) ≤ (x2).toInt ∧ (x2).toInt ≤ 255) (hx3 : (0 : Int) ≤ (x3).toInt ∧ (x3).toInt ≤ 15) : Sf (mX2_layStep k0 k1 x2 x3 M) (pM f) := by
  unfold mX2_layStep
  try have a_1 := i_shr1 (a := x3)
  refine Sf.b (fun x4_3 e_x4_3 => ?_)
  have d_x4_3 := congrArg Int32.toInt e_x4_3
  refine Sf.c (sX1_goesUp hk1 h_M ⟨by omega, by omega⟩) (fun r3 p_2 => ?_)
  obtain ⟨p_2a, p_2b⟩ := p_2
  have n_3 : ((0 : Int32)).toInt = 0 := rfl
  refine Sf.i (fun c_4 => ?_) (fun c_4 => ?_)
  · have c_4 := i_eq.mp c_4
    exact (sX2_layStep_b27 hk0 hk1 h_M ⟨by omega, by omega⟩ ⟨by omega, by omega⟩ ⟨by omega, by omega⟩)
  · have c_4 := i_ne c_4
    exact (sX2_layStep_b27 hk0 hk1 h_M ⟨by omega, by omega⟩ ⟨by omega, by omega⟩ ⟨by omega, by omega⟩)
set_option maxHeartbeats 2000000 in
theorem sX2_isClamped {f : Bx} {k0 : Nat} {x1 : Int32} {M : Mem} (hk0 : isL k0) (h_M : OKb f M) (hx1 : (0 : Int) ≤ (x1).toInt ∧ (x1).toInt ≤ 8) : Sf (mX2_isClamped k0 x1 M) (pI (0) (1)) := by
  unfold mX2_isClamped
  have b_1 : (0 : Int) ≤ (rd M k0 7).toInt ∧ (rd M k0 7).toInt ≤ 8 := h_M.at (bx_L0 hk0)
  refine Sf.i (fun c_2 => ?_) (fun c_2 => ?_)
  · have c_2 := i_lt.mp c_2
    have n_3 : ((0 : Int32)).toInt = 0 := rfl
    have z_4 : (0 : Int) ≤ ((0 : Int32)).toInt ∧ ((0 : Int32)).toInt ≤ 1 := ⟨by omega, by omega⟩
    exact Sf.ok z_4
  · have c_2 := i_nlt c_2
    have b_5 : (-1 : Int) ≤ (rd M k0 8).toInt ∧ (rd M k0 8).toInt ≤ 8 := h_M.at (bx_L0 hk0)
    refine Sf.i (fun c_6 => ?_) (fun c_6 => ?_)
    · have c_6 := i_lt.mp c_6
      have n_7 : ((0 : Int32)).toInt = 0 := rfl
      have z_8 : (0 : Int) ≤ ((0 : Int32)).toInt ∧ ((0 : Int32)).toInt ≤ 1 := ⟨by omega, by omega⟩
      exact Sf.ok z_8
    · have c_6 := i_nlt c_6
      have n_9 : ((1 : Int32)).toInt = 1 := rfl
      have z_10 : (0 : Int) ≤ ((1 : Int32)).toInt ∧ ((1 : Int32)).toInt ≤ 1 := ⟨by omega, by omega⟩
      exact Sf.ok z_10
set_option maxHeartbeats 2000000 in
theorem sX2_reachToBack_b38 {f : Bx} {k0 : Nat} {M : Mem} {ih4 : Int32 → Int32 → Option Int32} {x1 : Int32} {x2 : Int32} {d4 : Nat} (hk0 : isL k0) (h_M : OKb f M) (hx1 : (0 : Int) ≤ (x1).toInt ∧ (x1).toInt ≤ 2147483647) (hx2 : (0 : Int) ≤ (x2).toInt ∧ (x2).toInt ≤ 8) (he0 : (1 : Int) ≤ (rd M k0 6).toInt ∧ (rd M k0 6).toInt ≤ 9) (hih4 : ∀ (yx1 : Int32) (yx2 : Int32), ((0 : Int) ≤ (yx1).toInt ∧ (yx1).toInt ≤ 2147483647) → ((0 : Int) ≤ (yx2).toInt ∧ (yx2).toInt ≤ 9) → 9 - (yx2).toInt < d4 → Sf (ih4 yx1 yx2) (pI (0) (2147483647))) (hmu4 : 9 - (x2).toInt ≤ d4) : Sf (mX2_reachToBack_b38 k0 M ih4 x1 x2) (pI (0) (2147483647)) := by
  unfold mX2_reachToBack_b38
  have n_1 : ((1 : Int32)).toInt = 1 := rfl
  try have a_2 : ((x2 + (1 : Int32))).toInt = (x2).toInt + ((1 : Int32)).toInt := i_add (by omega) (by omega)
  refine Sf.b (fun x2_38 e_x2_38 => ?_)
  have d_x2_38 := congrArg Int32.toInt e_x2_38
  have g_3 := i_rng x1
  exact (hih4 _ _ ⟨by omega, by omega⟩ ⟨by omega, by omega⟩ (by omega))
set_option maxHeartbeats 2000000 in
theorem sX2_reachToBack_b4 {f : Bx} {k0 : Nat} {M : Mem} {ih4 : Int32 → Int32 → Option Int32} {x1 : Int32} {x2 : Int32} {d4 : Nat} (hk0 : isL k0) (h_M : OKb f M) (hx1 : (0 : Int) ≤ (x1).toInt ∧ (x1).toInt ≤ 2147483647) (hx2 : (0 : Int) ≤ (x2).toInt ∧ (x2).toInt ≤ 9) (hih4 : ∀ (yx1 : Int32) (yx2 : Int32), ((0 : Int) ≤ (yx1).toInt ∧ (yx1).toInt ≤ 2147483647) → ((0 : Int) ≤ (yx2).toInt ∧ (yx2).toInt ≤ 9) → 9 - (yx2).toInt < d4 → Sf (ih4 yx1 yx2) (pI (0) (2147483647))) (hmu4 : 9 - (x2).toInt ≤ d4) : Sf (mX2_reachToBack_b4 k0 M ih4 x1 x2) (pI (0) (2147483647)) := by
  unfold mX2_reachToBack_b4
  have b_1 : (0 : Int) ≤ (rd M k0 6).toInt ∧ (rd M k0 6).toInt ≤ 9 := h_M.at (bx_L0 hk0)
  refine Sf.i (fun c_2 => ?_) (fun c_2 => ?_)
  · have c_2 := i_le.mp c_2
    have z_3 : (0 : Int) ≤ (x1).toInt ∧ (x1).toInt ≤ 2147483647 := ⟨by omega, by omega⟩
    exact Sf.ok z_3
  · have c_2 := i_nle c_2
    have n_4 : ((9 : Int32)).toInt = 9 := rfl
    refine Sf.i (fun c_5 => ?_) (fun c_5 => ?_)
    · have c_5 := i_le.mp c_5
      exfalso; omega
    · have c_5 := i_nle c_5
      refine Sf.c (sX2_isClamped hk0 h_M ⟨by omega, by omega⟩) (fun r4 p_6 => ?_)
      obtain ⟨p_6a, p_6b⟩ := p_6
      have n_7 : ((0 : Int32)).toInt = 0 := rfl
      refine Sf.i (fun c_8 => ?_) (fun c_8 => ?_)
      · have c_8 := i_eq.mp c_8
        have g_9 := i_rng x1
        exact (sX2_reachToBack_b38 hk0 h_M ⟨by omega, by omega⟩ ⟨by omega, by omega⟩ ⟨by omega, by omega⟩ hih4 (by omega))
      · have c_8 := i_ne c_8
        refine Sf.k (ok_in (by omega) (by omega)) ?_
        have m_10 := i_max (a := x1) (b := (-(rd M (k0 + 1) ((x2).toNatClampNeg))))
        refine Sf.b (fun x1_37 e_x1_37 => ?_)
        have d_x1_37 := congrArg Int32.toInt e_x1_37
        have g_11 := i_rng x1_37
        exact (sX2_reachToBack_b38 hk0 h_M ⟨by omega, by omega⟩ ⟨by omega, by omega⟩ ⟨by omega, by omega⟩ hih4 (by omega))
theorem sX2_reachToBack_l4_n {f : Bx} {k0 : Nat} (hk0 : isL k0) {M : Mem}  (h_M : OKb f M)   : ∀ (n : Nat) (x1 : Int32) (x2 : Int32) (hx1 : (0 : Int) ≤ (x1).toInt ∧ (x1).toInt ≤ 2147483647) (hx2 : (0 : Int) ≤ (x2).toInt ∧ (x2).toInt ≤ 9)   (hmu : 9 - (x2).toInt < n), Sf (mX2_reachToBack_l4 k0 M n x1 x2) (pI (0) (2147483647)) := by
  intro n
  induction n with
  | zero => intro x1 x2 hx1 hx2 hmu; exfalso; omega
  | succ n IH => intro x1 x2 hx1 hx2 hmu; exact sX2_reachToBack_b4 hk0 h_M hx1 hx2    IH (by omega)
theorem sX2_reachToBack_l4 {f : Bx} {k0 : Nat} (hk0 : isL k0) {M : Mem} {x1 : Int32} {x2 : Int32}  (h_M : OKb f M) (hx1 : (0 : Int) ≤ (x1).toInt ∧ (x1).toInt ≤ 2147483647) (hx2 : (0 : Int) ≤ (x2).toInt ∧ (x2).toInt ≤ 9)    (hmu : 9 - (x2).toInt < 5000) : Sf (mX2_reachToBack_l4 k0 M 5000 x1 x2) (pI (0) (2147483647)) :=
  sX2_reachToBack_l4_n hk0 h_M   5000 _ _ hx1 hx2   hmu
set_option maxHeartbeats 2000000 in
theorem sX2_reachToBack {f : Bx} {k0 : Nat} {M : Mem} (hk0 : isL k0) (h_M : OKb f M) : Sf (mX2_reachToBack k0 M) (pI (0) (2147483647)) := by
  unfold mX2_reachToBack
  have n_1 : ((0 : Int32)).toInt = 0 := rfl
  have g_2 := i_rng (0 : Int32)
  exact (sX2_reachToBack_l4 hk0 h_M ⟨by omega, by omega⟩ ⟨by omega, by omega⟩ (by omega))
set_option maxHeartbeats 2000000 in
theorem sX2_topOfFreeSide_b37 {f : Bx} {k0 : Nat} {M : Mem} {ih4 : Int32 → Int32 → Option Int32} {x1 : Int32} {x2 : Int32} {d4 : Nat} (hk0 : isL k0) (h_M : OKb f M) (hx1 : (0 : Int) ≤ (x1).toInt ∧ (x1).toInt ≤ 2147483647) (hx2 : (0 : Int) ≤ (x2).toInt ∧ (x2).toInt ≤ 8) (he0 : (1 : Int) ≤ (rd M k0 6).toInt ∧ (rd M k0 6).toInt ≤ 9) (hih4 : ∀ (yx1 : Int32) (yx2 : Int32), ((0 : Int) ≤ (yx1).toInt ∧ (yx1).toInt ≤ 2147483647) → ((0 : Int) ≤ (yx2).toInt ∧ (yx2).toInt ≤ 9) → 9 - (yx2).toInt < d4 → Sf (ih4 yx1 yx2) (pI (0) (2147483647))) (hmu4 : 9 - (x2).toInt ≤ d4) : Sf (mX2_topOfFreeSide_b37 k0 M ih4 x1 x2) (pI (0) (2147483647)) := by
  unfold mX2_topOfFreeSide_b37
  have n_1 : ((1 : Int32)).toInt = 1 := rfl
  try have a_2 : ((x2 + (1 : Int32))).toInt = (x2).toInt + ((1 : Int32)).toInt := i_add (by omega) (by omega)
  refine Sf.b (fun x2_37 e_x2_37 => ?_)
  have d_x2_37 := congrArg Int32.toInt e_x2_37
  have g_3 := i_rng x1
  exact (hih4 _ _ ⟨by omega, by omega⟩ ⟨by omega, by omega⟩ (by omega))
set_option maxHeartbeats 2000000 in
theorem sX2_topOfFreeSide_b4 {f : Bx} {k0 : Nat} {M : Mem} {ih4 : Int32 → Int32 → Option Int32} {x1 : Int32} {x2 : Int32} {d4 : Nat} (hk0 : isL k0) (h_M : OKb f M) (hx1 : (0 : Int) ≤ (x1).toInt ∧ (x1).toInt ≤ 2147483647) (hx2 : (0 : Int) ≤ (x2).toInt ∧ (x2).toInt ≤ 9) (hih4 : ∀ (yx1 : Int32) (yx2 : Int32), ((0 : Int) ≤ (yx1).toInt ∧ (yx1).toInt ≤ 2147483647) → ((0 : Int) ≤ (yx2).toInt ∧ (yx2).toInt ≤ 9) → 9 - (yx2).toInt < d4 → Sf (ih4 yx1 yx2) (pI (0) (2147483647))) (hmu4 : 9 - (x2).toInt ≤ d4) : Sf (mX2_topOfFreeSide_b4 k0 M ih4 x1 x2) (pI (0) (2147483647)) := by
  unfold mX2_topOfFreeSide_b4
  have b_1 : (0 : Int) ≤ (rd M k0 6).toInt ∧ (rd M k0 6).toInt ≤ 9 := h_M.at (bx_L0 hk0)
  refine Sf.i (fun c_2 => ?_) (fun c_2 => ?_)
  · have c_2 := i_le.mp c_2
    have z_3 : (0 : Int) ≤ (x1).toInt ∧ (x1).toInt ≤ 2147483647 := ⟨by omega, by omega⟩
    exact Sf.ok z_3
  · have c_2 := i_nle c_2
    have n_4 : ((9 : Int32)).toInt = 9 := rfl
    refine Sf.i (fun c_5 => ?_) (fun c_5 => ?_)
    · have c_5 := i_le.mp c_5
      exfalso; omega
    · have c_5 := i_nle c_5
      refine Sf.c (sX2_isClamped hk0 h_M ⟨by omega, by omega⟩) (fun r4 p_6 => ?_)
      obtain ⟨p_6a, p_6b⟩ := p_6
      have n_7 : ((0 : Int32)).toInt = 0 := rfl
      refine Sf.i (fun c_8 => ?_) (fun c_8 => ?_)
      · have c_8 := i_eq.mp c_8
        refine Sf.k (ok_in (by omega) (by omega)) ?_
        have m_9 := i_max (a := x1) (b := (rd M (k0 + 2) ((x2).toNatClampNeg)))
        refine Sf.b (fun x1_36 e_x1_36 => ?_)
        have d_x1_36 := congrArg Int32.toInt e_x1_36
        have g_10 := i_rng x1_36
        exact (sX2_topOfFreeSide_b37 hk0 h_M ⟨by omega, by omega⟩ ⟨by omega, by omega⟩ ⟨by omega, by omega⟩ hih4 (by omega))
      · have c_8 := i_ne c_8
        have g_11 := i_rng x1
        exact (sX2_topOfFreeSide_b37 hk0 h_M ⟨by omega, by omega⟩ ⟨by omega, by omega⟩ ⟨by omega, by omega⟩ hih4 (by omega))
theorem sX2_topOfFreeSide_l4_n {f : Bx} {k0 : Nat} (hk0 : isL k0) {M : Mem}  (h_M : OKb f M)   : ∀ (n : Nat) (x1 : Int32) (x2 : Int32) (hx1 : (0 : Int) ≤ (x1).toInt ∧ (x1).toInt ≤ 2147483647) (hx2 : (0 : Int) ≤ (x2).toInt ∧ (x2).toInt ≤ 9)   (hmu : 9 - (x2).toInt < n), Sf (mX2_topOfFreeSide_l4 k0 M n x1 x2) (pI (0) (2147483647)) := by
  intro n
  induction n with
  | zero => intro x1 x2 hx1 hx2 hmu; exfalso; omega
  | succ n IH => intro x1 x2 hx1 hx2 hmu; exact sX2_topOfFreeSide_b4 hk0 h_M hx1 hx2    IH (by omega)
theorem sX2_topOfFreeSide_l4 {f : Bx} {k0 : Nat} (hk0 : isL k0) {M : Mem} {x1 : Int32} {x2 : Int32}  (h_M : OKb f M) (hx1 : (0 : Int) ≤ (x1).toInt ∧ (x1).toInt ≤ 2147483647) (hx2 : (0 : Int) ≤ (x2).toInt ∧ (x2).toInt ≤ 9)    (hmu : 9 - (x2).toInt < 5000) : Sf (mX2_topOfFreeSide_l4 k0 M 5000 x1 x2) (pI (0) (2147483647)) :=
  sX2_topOfFreeSide_l4_n hk0 h_M   5000 _ _ hx1 hx2   hmu
set_option maxHeartbeats 2000000 in
theorem sX2_topOfFreeSide {f : Bx} {k0 : Nat} {M : Mem} (hk0 : isL k0) (h_M : OKb f M) : Sf (mX2_topOfFreeSide k0 M) (pI (0) (2147483647)) := by
  unfold mX2_topOfFreeSide
  have n_1 : ((0 : Int32)).toInt = 0 := rfl
  have g_2 := i_rng (0 : Int32)
  exact (sX2_topOfFreeSide_l4 hk0 h_M ⟨by omega, by omega⟩ ⟨by omega, by omega⟩ (by omega))
set_option maxHeartbeats 2000000 in
theorem sX2_extent_b7_0 {f : Bx} {k0 : Nat} {M : Mem} {ih7 : Int32 → Int32 → Int32 → Int32 → Option Int32} {x1 : Int32} {x2 : Int32} {x3 : Int32} {x4 : Int32} {d7 : Nat} (h_M : OKb f M) (hx1 : (0 : Int) ≤ (x1).toInt ∧ (x1).toInt ≤ 9) (hx2 : (-2147483648 : Int) ≤ (x2).toInt ∧ (x2).toInt ≤ 0) (hx3 : (0 : Int) ≤ (x3).toInt ∧ (x3).toInt ≤ 2147483647) (hx4 : (0 : Int) ≤ (x4).toInt ∧ (x4).toInt ≤ 9) (hih7 : ∀ (yx1 : Int32) (yx2 : Int32) (yx3 : Int32) (yx4 : Int32), ((0 : Int) ≤ (yx1).toInt ∧ (yx1).toInt ≤ 9) → ((-2147483648 : Int) ≤ (yx2).toInt ∧ (yx2).toInt ≤ 0) → ((0 : Int) ≤ (yx3).toInt ∧ (yx3).toInt ≤ 2147483647) → ((0 : Int) ≤ (yx4).toInt ∧ (yx4).toInt ≤ 9) → 9 - (yx4).toInt < d7 → Sf (ih7 yx1 yx2 yx3 yx4) (pI (-2147483648) (2147483647))) (hmu7 : 9 - (x4).toInt ≤ d7) : Sf (mX2_extent_b7 k0 M ih7 x1 x2 x3 x4) (pI (-2147483648) (2147483647)) := by
  unfold mX2_extent_b7
  refine Sf.i (fun c_1 => ?_) (fun c_1 => ?_)
  · have c_1 := i_le.mp c_1
    exact Sf.ok (i_rng _)
  · have c_1 := i_nle c_1
    have n_2 : ((9 : Int32)).toInt = 9 := rfl
    refine Sf.i (fun c_3 => ?_) (fun c_3 => ?_)
    · have c_3 := i_le.mp c_3
      exfalso; omega
    · have c_3 := i_nle c_3
      refine Sf.k (ok_in (by omega) (by omega)) ?_
      have m_4 := i_min (a := x2) (b := (rd M k0 ((x4).toNatClampNeg)))
      refine Sf.b (fun x2_28 e_x2_28 => ?_)
      have d_x2_28 := congrArg Int32.toInt e_x2_28
      refine Sf.k (ok_in (by omega) (by omega)) ?_
      have m_5 := i_max (a := x3) (b := (rd M k0 ((x4).toNatClampNeg)))
      refine Sf.b (fun x3_37 e_x3_37 => ?_)
      have d_x3_37 := congrArg Int32.toInt e_x3_37
      have n_6 : ((1 : Int32)).toInt = 1 := rfl
      try have a_7 : ((x4 + (1 : Int32))).toInt = (x4).toInt + ((1 : Int32)).toInt := i_add (by omega) (by omega)
      refine Sf.b (fun x4_38 e_x4_38 => ?_)
      have d_x4_38 := congrArg Int32.toInt e_x4_38
      have g_8 := i_rng x2_28
      have g_9 := i_rng x3_37
      exact (hih7 _ _ _ _ ⟨by omega, by omega⟩ ⟨by omega, by omega⟩ ⟨by omega, by omega⟩ ⟨by omega, by omega⟩ (by omega))
set_option maxHeartbeats 2000000 in
theorem sX2_extent_b7_1 {f : Bx} {k0 : Nat} {M : Mem} {ih7 : Int32 → Int32 → Int32 → Int32 → Option Int32} {x1 : Int32} {x2 : Int32} {x3 : Int32} {x4 : Int32} {d7 : Nat} (h_M : OKb f M) (hx1 : (0 : Int) ≤ (x1).toInt ∧ (x1).toInt ≤ 9) (hx2 : (-2147483648 : Int) ≤ (x2).toInt ∧ (x2).toInt ≤ 0) (hx3 : (0 : Int) ≤ (x3).toInt ∧ (x3).toInt ≤ 2147483647) (hx4 : (0 : Int) ≤ (x4).toInt ∧ (x4).toInt ≤ 9) (hih7 : ∀ (yx1 : Int32) (yx2 : Int32) (yx3 : Int32) (yx4 : Int32), ((0 : Int) ≤ (yx1).toInt ∧ (yx1).toInt ≤ 9) → ((-2147483648 : Int) ≤ (yx2).toInt ∧ (yx2).toInt ≤ 0) → ((0 : Int) ≤ (yx3).toInt ∧ (yx3).toInt ≤ 2147483647) → ((0 : Int) ≤ (yx4).toInt ∧ (yx4).toInt ≤ 9) → 9 - (yx4).toInt < d7 → Sf (ih7 yx1 yx2 yx3 yx4) (pI (-2147483648) (2147483647))) (hmu7 : 9 - (x4).toInt ≤ d7) : Sf (mX2_extent_b7 k0 M ih7 x1 x2 x3 x4) (pI (-2147483648) (2147483647)) := by
  unfold mX2_extent_b7
  refine Sf.i (fun c_1 => ?_) (fun c_1 => ?_)
  · have c_1 := i_le.mp c_1
    exact Sf.ok (i_rng _)
  · have c_1 := i_nle c_1
    have n_2 : ((9 : Int32)).toInt = 9 := rfl
    refine Sf.i (fun c_3 => ?_) (fun c_3 => ?_)
    · have c_3 := i_le.mp c_3
      exfalso; omega
    · have c_3 := i_nle c_3
      refine Sf.k (ok_in (by omega) (by omega)) ?_
      have m_4 := i_min (a := x2) (b := (rd M k0 ((x4).toNatClampNeg)))
      refine Sf.b (fun x2_28 e_x2_28 => ?_)
      have d_x2_28 := congrArg Int32.toInt e_x2_28
      refine Sf.k (ok_in (by omega) (by omega)) ?_
      have m_5 := i_max (a := x3) (b := (rd M k0 ((x4).toNatClampNeg)))
      refine Sf.b (fun x3_37 e_x3_37 => ?_)
      have d_x3_37 := congrArg Int32.toInt e_x3_37
      have n_6 : ((1 : Int32)).toInt = 1 := rfl
      try have a_7 : ((x4 + (1 : Int32))).toInt = (x4).toInt + ((1 : Int32)).toInt := i_add (by omega) (by omega)
      refine Sf.b (fun x4_38 e_x4_38 => ?_)
      have d_x4_38 := congrArg Int32.toInt e_x4_38
      have g_8 := i_rng x2_28
      have g_9 := i_rng x3_37
      exact (hih7 _ _ _ _ ⟨by omega, by omega⟩ ⟨by omega, by omega⟩ ⟨by omega, by omega⟩ ⟨by omega, by omega⟩ (by omega))
theorem sX2_extent_l7_0_n {f : Bx} {k0 : Nat} {M : Mem}  (h_M : OKb f M)   : ∀ (n : Nat) (x1 : Int32) (x2 : Int32) (x3 : Int32) (x4 : Int32) (hx1 : (0 : Int) ≤ (x1).toInt ∧ (x1).toInt ≤ 9) (hx2 : (-2147483648 : Int) ≤ (x2).toInt ∧ (x2).toInt ≤ 0) (hx3 : (0 : Int) ≤ (x3).toInt ∧ (x3).toInt ≤ 2147483647) (hx4 : (0 : Int) ≤ (x4).toInt ∧ (x4).toInt ≤ 9)   (hmu : 9 - (x4).toInt < n), Sf (mX2_extent_l7 k0 M n x1 x2 x3 x4) (pI (-2147483648) (2147483647)) := by
  intro n
  induction n with
  | zero => intro x1 x2 x3 x4 hx1 hx2 hx3 hx4 hmu; exfalso; omega
  | succ n IH => intro x1 x2 x3 x4 hx1 hx2 hx3 hx4 hmu; exact sX2_extent_b7_0  h_M hx1 hx2 hx3 hx4    IH (by omega)
theorem sX2_extent_l7_0 {f : Bx} {k0 : Nat} {M : Mem} {x1 : Int32} {x2 : Int32} {x3 : Int32} {x4 : Int32}  (h_M : OKb f M) (hx1 : (0 : Int) ≤ (x1).toInt ∧ (x1).toInt ≤ 9) (hx2 : (-2147483648 : Int) ≤ (x2).toInt ∧ (x2).toInt ≤ 0) (hx3 : (0 : Int) ≤ (x3).toInt ∧ (x3).toInt ≤ 2147483647) (hx4 : (0 : Int) ≤ (x4).toInt ∧ (x4).toInt ≤ 9)    (hmu : 9 - (x4).toInt < 5000) : Sf (mX2_extent_l7 k0 M 5000 x1 x2 x3 x4) (pI (-2147483648) (2147483647)) :=
  sX2_extent_l7_0_n  h_M   5000 _ _ _ _ hx1 hx2 hx3 hx4   hmu
theorem sX2_extent_l7_1_n {f : Bx} {k0 : Nat} {M : Mem}  (h_M : OKb f M)   : ∀ (n : Nat) (x1 : Int32) (x2 : Int32) (x3 : Int32) (x4 : Int32) (hx1 : (0 : Int) ≤ (x1).toInt ∧ (x1).toInt ≤ 9) (hx2 : (-2147483648 : Int) ≤ (x2).toInt ∧ (x2).toInt ≤ 0) (hx3 : (0 : Int) ≤ (x3).toInt ∧ (x3).toInt ≤ 2147483647) (hx4 : (0 : Int) ≤ (x4).toInt ∧ (x4).toInt ≤ 9)   (hmu : 9 - (x4).toInt < n), Sf (mX2_extent_l7 k0 M n x1 x2 x3 x4) (pI (-2147483648) (2147483647)) := by
  intro n
  induction n with
  | zero => intro x1 x2 x3 x4 hx1 hx2 hx3 hx4 hmu; exfalso; omega
  | succ n IH => intro x1 x2 x3 x4 hx1 hx2 hx3 hx4 hmu; exact sX2_extent_b7_1  h_M hx1 hx2 hx3 hx4    IH (by omega)
theorem sX2_extent_l7_1 {f : Bx} {k0 : Nat} {M : Mem} {x1 : Int32} {x2 : Int32} {x3 : Int32} {x4 : Int32}  (h_M : OKb f M) (hx1 : (0 : Int) ≤ (x1).toInt ∧ (x1).toInt ≤ 9) (hx2 : (-2147483648 : Int) ≤ (x2).toInt ∧ (x2).toInt ≤ 0) (hx3 : (0 : Int) ≤ (x3).toInt ∧ (x3).toInt ≤ 2147483647) (hx4 : (0 : Int) ≤ (x4).toInt ∧ (x4).toInt ≤ 9)    (hmu : 9 - (x4).toInt < 5000) : Sf (mX2_extent_l7 k0 M 5000 x1 x2 x3 x4) (pI (-2147483648) (2147483647)) :=
  sX2_extent_l7_1_n  h_M   5000 _ _ _ _ hx1 hx2 hx3 hx4   hmu
set_option maxHeartbeats 2000000 in
theorem sX2_extent_0 {f : Bx} {k0 : Nat} {x1 : Int32} {M : Mem} (h_M : OKb f M) (hx1 : (0 : Int) ≤ (x1).toInt ∧ (x1).toInt ≤ 9) : Sf (mX2_extent k0 x1 M) (pI (-2147483648) (2147483647)) := by
  unfold mX2_extent
  have n_1 : ((0 : Int32)).toInt = 0 := rfl
  have g_2 := i_rng (0 : Int32)
  exact (sX2_extent_l7_0 h_M ⟨by omega, by omega⟩ ⟨by omega, by omega⟩ ⟨by omega, by omega⟩ ⟨by omega, by omega⟩ (by omega))
set_option maxHeartbeats 2000000 in
theorem sX2_extent_1 {f : Bx} {k0 : Nat} {x1 : Int32} {M : Mem} (h_M : OKb f M) (hx1 : (0 : Int) ≤ (x1).toInt ∧ (x1).toInt ≤ 9) : Sf (mX2_extent k0 x1 M) (pI (-2147483648) (2147483647)) := by
  unfold mX2_extent
  have n_1 : ((0 : Int32)).toInt = 0 := rfl
  have g_2 := i_rng (0 : Int32)
  exact (sX2_extent_l7_1 h_M ⟨by omega, by omega⟩ ⟨by omega, by omega⟩ ⟨by omega, by omega⟩ ⟨by omega, by omega⟩ (by omega))
set_option maxHeartbeats 2000000 in
theorem sX2_enters {f : Bx} {k0 : Nat} {x1 : Int32} {x2 : Int32} {x3 : Int32} {x4 : Int32} {x5 : Int32} {M : Mem} (hk0 : isL k0) (h_M : OKb f M) (hx1 : (0 : Int) ≤ (x1).toInt ∧ (x1).toInt ≤ 8) : Sf (mX2_enters k0 x1 x2 x3 x4 x5 M) (pI (0) (1)) := by
  unfold mX2_enters
  refine Sf.i (fun c_1 => ?_) (fun c_1 => ?_)
  · have c_1 := i_le.mp c_1
    have n_2 : ((0 : Int32)).toInt = 0 := rfl
    have z_3 : (0 : Int) ≤ ((0 : Int32)).toInt ∧ ((0 : Int32)).toInt ≤ 1 := ⟨by omega, by omega⟩
    exact Sf.ok z_3
  · have c_1 := i_nle c_1
    refine Sf.i (fun c_4 => ?_) (fun c_4 => ?_)
    · have c_4 := i_lt.mp c_4
      refine Sf.k (ok_in (by omega) (by omega)) ?_
      refine Sf.i (fun c_5 => ?_) (fun c_5 => ?_)
      · have c_5 := i_le.mp c_5
        have n_6 : ((0 : Int32)).toInt = 0 := rfl
        have z_7 : (0 : Int) ≤ ((0 : Int32)).toInt ∧ ((0 : Int32)).toInt ≤ 1 := ⟨by omega, by omega⟩
        exact Sf.ok z_7
      · have c_5 := i_nle c_5
        refine Sf.k (ok_in (by omega) (by omega)) ?_
        refine Sf.i (fun c_8 => ?_) (fun c_8 => ?_)
        · have c_8 := i_le.mp c_8
          have n_9 : ((0 : Int32)).toInt = 0 := rfl
          have z_10 : (0 : Int) ≤ ((0 : Int32)).toInt ∧ ((0 : Int32)).toInt ≤ 1 := ⟨by omega, by omega⟩
          exact Sf.ok z_10
        · have c_8 := i_nle c_8
          refine Sf.k (ok_in (by omega) (by omega)) ?_
          refine Sf.i (fun c_11 => ?_) (fun c_11 => ?_)
          · have c_11 := i_le.mp c_11
            have n_12 : ((0 : Int32)).toInt = 0 := rfl
            have z_13 : (0 : Int) ≤ ((0 : Int32)).toInt ∧ ((0 : Int32)).toInt ≤ 1 := ⟨by omega, by omega⟩
            exact Sf.ok z_13
          · have c_11 := i_nle c_11
            refine Sf.k (ok_in (by omega) (by omega)) ?_
            refine Sf.i (fun c_14 => ?_) (fun c_14 => ?_)
            · have c_14 := i_le.mp c_14
              have n_15 : ((0 : Int32)).toInt = 0 := rfl
              have z_16 : (0 : Int) ≤ ((0 : Int32)).toInt ∧ ((0 : Int32)).toInt ≤ 1 := ⟨by omega, by omega⟩
              exact Sf.ok z_16
            · have c_14 := i_nle c_14
              have n_17 : ((1 : Int32)).toInt = 1 := rfl
              have z_18 : (0 : Int) ≤ ((1 : Int32)).toInt ∧ ((1 : Int32)).toInt ≤ 1 := ⟨by omega, by omega⟩
              exact Sf.ok z_18
    · have c_4 := i_nlt c_4
      have n_19 : ((0 : Int32)).toInt = 0 := rfl
      have z_20 : (0 : Int) ≤ ((0 : Int32)).toInt ∧ ((0 : Int32)).toInt ≤ 1 := ⟨by omega, by omega⟩
      exact Sf.ok z_20
set_option maxHeartbeats 2000000 in
theorem sX2_legsHitting_b108 {f : Bx} {k0 : Nat} {k1 : Nat} {M : Mem} {ih10 : Int32 → Int32 → Option Int32} {x3 : Int32} {x4 : Int32} {d10 : Nat} (hk0 : isL k0) (hk1 : isP k1) (h_M : OKb f M) (hx3 : (0 : Int) ≤ (x3).toInt ∧ (x3).toInt ≤ 4095) (hx4 : (0 : Int) ≤ (x4).toInt ∧ (x4).toInt ≤ 8) (he0 : (1 : Int) ≤ (rd M k0 6).toInt ∧ (rd M k0 6).toInt ≤ 9) (hih10 : ∀ (yx3 : Int32) (yx4 : Int32), ((0 : Int) ≤ (yx3).toInt ∧ (yx3).toInt ≤ 4095) → ((0 : Int) ≤ (yx4).toInt ∧ (yx4).toInt ≤ 9) → 9 - (yx4).toInt < d10 → Sf (ih10 yx3 yx4) (pI (0) (4095))) (hmu10 : 9 - (x4).toInt ≤ d10) : Sf (mX2_legsHitting_b108 k0 k1 M ih10 x3 x4) (pI (0) (4095)) := by
  unfold mX2_legsHitting_b108
  have n_1 : ((1 : Int32)).toInt = 1 := rfl
  try have a_2 : ((x4 + (1 : Int32))).toInt = (x4).toInt + ((1 : Int32)).toInt := i_add (by omega) (by omega)
  refine Sf.b (fun x4_108 e_x4_108 => ?_)
  have d_x4_108 := congrArg Int32.toInt e_x4_108
  exact (hih10 _ _ ⟨by omega, by omega⟩ ⟨by omega, by omega⟩ (by omega))
set_option maxHeartbeats 2000000 in
theorem sX2_legsHitting_b94 {f : Bx} {k0 : Nat} {k1 : Nat} {M : Mem} {ih10 : Int32 → Int32 → Option Int32} {x3 : Int32} {x4 : Int32} {y0 : Int32} {d10 : Nat} (hk0 : isL k0) (hk1 : isP k1) (h_M : OKb f M) (hx3 : (0 : Int) ≤ (x3).toInt ∧ (x3).toInt ≤ 4095) (hx4 : (0 : Int) ≤ (x4).toInt ∧ (x4).toInt ≤ 8) (hy0 : (0 : Int) ≤ (y0).toInt ∧ (y0).toInt ≤ 1) (he0 : (1 : Int) ≤ (rd M k0 6).toInt ∧ (rd M k0 6).toInt ≤ 9) (hih10 : ∀ (yx3 : Int32) (yx4 : Int32), ((0 : Int) ≤ (yx3).toInt ∧ (yx3).toInt ≤ 4095) → ((0 : Int) ≤ (yx4).toInt ∧ (yx4).toInt ≤ 9) → 9 - (yx4).toInt < d10 → Sf (ih10 yx3 yx4) (pI (0) (4095))) (hmu10 : 9 - (x4).toInt ≤ d10) : Sf (mX2_legsHitting_b94 k0 k1 M ih10 x3 x4 y0) (pI (0) (4095)) := by
  unfold mX2_legsHitting_b94
  have n_1 : ((0 : Int32)).toInt = 0 := rfl
  refine Sf.i (fun c_2 => ?_) (fun c_2 => ?_)
  · have c_2 := i_eq.mp c_2
    have b_3 : (0 : Int) ≤ (rd M k0 6).toInt ∧ (rd M k0 6).toInt ≤ 9 := h_M.at (bx_L0 hk0)
    exact (sX2_legsHitting_b108 hk0 hk1 h_M ⟨by omega, by omega⟩ ⟨by omega, by omega⟩ ⟨by omega, by omega⟩ hih10 (by omega))
  · have c_2 := i_ne c_2
    try have a_4 : 0 < (((1 : Int32) <<< (x4 &&& 31))).toInt ∧ (((1 : Int32) <<< (x4 &&& 31))).toInt ≤ 256 := i_shl 8 (by decide) ⟨by omega, by omega⟩
    try have a_5 : 0 ≤ ((x3 ||| ((1 : Int32) <<< (x4 &&& 31)))).toInt ∧ ((x3 ||| ((1 : Int32) <<< (x4 &&& 31)))).toInt < 4096 := i_or 12 (by decide) ⟨by omega, by omega⟩ ⟨by omega, by omega⟩
    refine Sf.b (fun x3_107 e_x3_107 => ?_)
    have d_x3_107 := congrArg Int32.toInt e_x3_107
    have b_6 : (0 : Int) ≤ (rd M k0 6).toInt ∧ (rd M k0 6).toInt ≤ 9 := h_M.at (bx_L0 hk0)
    exact (sX2_legsHitting_b108 hk0 hk1 h_M ⟨by omega, by omega⟩ ⟨by omega, by omega⟩ ⟨by omega, by omega⟩ hih10 (by omega))
set_option maxHeartbeats 2000000 in
theorem sX2_legsHitting_b89 {f : Bx} {k0 : Nat} {k1 : Nat} {M : Mem} {ih10 : Int32 → Int32 → Option Int32} {x3 : Int32} {x4 : Int32} {d10 : Nat} (hk0 : isL k0) (hk1 : isP k1) (h_M : OKb f M) (hx3 : (0 : Int) ≤ (x3).toInt ∧ (x3).toInt ≤ 4095) (hx4 : (0 : Int) ≤ (x4).toInt ∧ (x4).toInt ≤ 8) (he0 : (1 : Int) ≤ (rd M k0 6).toInt ∧ (rd M k0 6).toInt ≤ 9) (hih10 : ∀ (yx3 : Int32) (yx4 : Int32), ((0 : Int) ≤ (yx3).toInt ∧ (yx3).toInt ≤ 4095) → ((0 : Int) ≤ (yx4).toInt ∧ (yx4).toInt ≤ 9) → 9 - (yx4).toInt < d10 → Sf (ih10 yx3 yx4) (pI (0) (4095))) (hmu10 : 9 - (x4).toInt ≤ d10) : Sf (mX2_legsHitting_b89 k0 k1 M ih10 x3 x4) (pI (0) (4095)) := by
  unfold mX2_legsHitting_b89
  have n_1 : ((1 : Int32)).toInt = 1 := rfl
  have b_2 : (0 : Int) ≤ (rd M k0 6).toInt ∧ (rd M k0 6).toInt ≤ 9 := h_M.at (bx_L0 hk0)
  exact (sX2_legsHitting_b94 hk0 hk1 h_M ⟨by omega, by omega⟩ ⟨by omega, by omega⟩ ⟨by omega, by omega⟩ ⟨by omega, by omega⟩ hih10 (by omega))
set_option maxHeartbeats 2000000 in
theorem sX2_legsHitting_b93 {f : Bx} {k0 : Nat} {k1 : Nat} {M : Mem} {ih10 : Int32 → Int32 → Option Int32} {x3 : Int32} {x4 : Int32} {d10 : Nat} (hk0 : isL k0) (hk1 : isP k1) (h_M : OKb f M) (hx3 : (0 : Int) ≤ (x3).toInt ∧ (x3).toInt ≤ 4095) (hx4 : (0 : Int) ≤ (x4).toInt ∧ (x4).toInt ≤ 8) (he0 : (1 : Int) ≤ (rd M k0 6).toInt ∧ (rd M k0 6).toInt ≤ 9) (hih10 : ∀ (yx3 : Int32) (yx4 : Int32), ((0 : Int) ≤ (yx3).toInt ∧ (yx3).toInt ≤ 4095) → ((0 : Int) ≤ (yx4).toInt ∧ (yx4).toInt ≤ 9) → 9 - (yx4).toInt < d10 → Sf (ih10 yx3 yx4) (pI (0) (4095))) (hmu10 : 9 - (x4).toInt ≤ d10) : Sf (mX2_legsHitting_b93 k0 k1 M ih10 x3 x4) (pI (0) (4095)) := by
  unfold mX2_legsHitting_b93
  have n_1 : ((0 : Int32)).toInt = 0 := rfl
  have b_2 : (0 : Int) ≤ (rd M k0 6).toInt ∧ (rd M k0 6).toInt ≤ 9 := h_M.at (bx_L0 hk0)
  exact (sX2_legsHitting_b94 hk0 hk1 h_M ⟨by omega, by omega⟩ ⟨by omega, by omega⟩ ⟨by omega, by omega⟩ ⟨by omega, by omega⟩ hih10 (by omega))
set_option maxHeartbeats 2000000 in
theorem sX2_legsHitting_b10 {f : Bx} {k0 : Nat} {k1 : Nat} {M : Mem} {ih10 : Int32 → Int32 → Option Int32} {x3 : Int32} {x4 : Int32} {d10 : Nat} (hk0 : isL k0) (hk1 : isP k1) (h_M : OKb f M) (hx3 : (0 : Int) ≤ (x3).toInt ∧ (x3).toInt ≤ 4095) (hx4 : (0 : Int) ≤ (x4).toInt ∧ (x4).toInt ≤ 9) (hih10 : ∀ (yx3 : Int32) (yx4 : Int32), ((0 : Int) ≤ (yx3).toInt ∧ (yx3).toInt ≤ 4095) → ((0 : Int) ≤ (yx4).toInt ∧ (yx4).toInt ≤ 9) → 9 - (yx4).toInt < d10 → Sf (ih10 yx3 yx4) (pI (0) (4095))) (hmu10 : 9 - (x4).toInt ≤ d10) : Sf (mX2_legsHitting_b10 k0 k1 M ih10 x3 x4) (pI (0) (4095)) := by
  unfold mX2_legsHitting_b10
  have b_1 : (0 : Int) ≤ (rd M k0 6).toInt ∧ (rd M k0 6).toInt ≤ 9 := h_M.at (bx_L0 hk0)
  refine Sf.i (fun c_2 => ?_) (fun c_2 => ?_)
  · have c_2 := i_le.mp c_2
    have z_3 : (0 : Int) ≤ (x3).toInt ∧ (x3).toInt ≤ 4095 := ⟨by omega, by omega⟩
    exact Sf.ok z_3
  · have c_2 := i_nle c_2
    have n_4 : ((9 : Int32)).toInt = 9 := rfl
    refine Sf.i (fun c_5 => ?_) (fun c_5 => ?_)
    · have c_5 := i_le.mp c_5
      exfalso; omega
    · have c_5 := i_nle c_5
      have n_6 : ((0 : Int32)).toInt = 0 := rfl
      refine Sf.k (ok_in (by omega) (by omega)) ?_
      have n_7 : ((1 : Int32)).toInt = 1 := rfl
      refine Sf.k (ok_in (by omega) (by omega)) ?_
      refine Sf.c (sX2_enters hk0 h_M ⟨by omega, by omega⟩) (fun r6 p_8 => ?_)
      obtain ⟨p_8a, p_8b⟩ := p_8
      have n_9 : ((0 : Int32)).toInt = 0 := rfl
      refine Sf.i (fun c_10 => ?_) (fun c_10 => ?_)
      · have c_10 := i_eq.mp c_10
        have n_11 : ((2 : Int32)).toInt = 2 := rfl
        refine Sf.k (ok_in (by omega) (by omega)) ?_
        have n_12 : ((3 : Int32)).toInt = 3 := rfl
        refine Sf.k (ok_in (by omega) (by omega)) ?_
        refine Sf.c (sX2_enters hk0 h_M ⟨by omega, by omega⟩) (fun r15 p_13 => ?_)
        obtain ⟨p_13a, p_13b⟩ := p_13
        refine Sf.i (fun c_14 => ?_) (fun c_14 => ?_)
        · have c_14 := i_eq.mp c_14
          refine Sf.c (sX2_isClamped hk0 h_M ⟨by omega, by omega⟩) (fun r19 p_15 => ?_)
          obtain ⟨p_15a, p_15b⟩ := p_15
          refine Sf.i (fun c_16 => ?_) (fun c_16 => ?_)
          · have c_16 := i_eq.mp c_16
            have n_17 : ((4 : Int32)).toInt = 4 := rfl
            refine Sf.k (ok_in (by omega) (by omega)) ?_
            have n_18 : ((5 : Int32)).toInt = 5 := rfl
            refine Sf.k (ok_in (by omega) (by omega)) ?_
            refine Sf.c (sX2_enters hk0 h_M ⟨by omega, by omega⟩) (fun r25 p_19 => ?_)
            obtain ⟨p_19a, p_19b⟩ := p_19
            refine Sf.i (fun c_20 => ?_) (fun c_20 => ?_)
            · have c_20 := i_eq.mp c_20
              exact (sX2_legsHitting_b93 hk0 hk1 h_M ⟨by omega, by omega⟩ ⟨by omega, by omega⟩ ⟨by omega, by omega⟩ hih10 (by omega))
            · have c_20 := i_ne c_20
              exact (sX2_legsHitting_b89 hk0 hk1 h_M ⟨by omega, by omega⟩ ⟨by omega, by omega⟩ ⟨by omega, by omega⟩ hih10 (by omega))
          · have c_16 := i_ne c_16
            exact (sX2_legsHitting_b93 hk0 hk1 h_M ⟨by omega, by omega⟩ ⟨by omega, by omega⟩ ⟨by omega, by omega⟩ hih10 (by omega))
        · have c_14 := i_ne c_14
          exact (sX2_legsHitting_b89 hk0 hk1 h_M ⟨by omega, by omega⟩ ⟨by omega, by omega⟩ ⟨by omega, by omega⟩ hih10 (by omega))
      · have c_10 := i_ne c_10
        exact (sX2_legsHitting_b89 hk0 hk1 h_M ⟨by omega, by omega⟩ ⟨by omega, by omega⟩ ⟨by omega, by omega⟩ hih10 (by omega))
theorem sX2_legsHitting_l10_n {f : Bx} {k0 : Nat} (hk0 : isL k0) {k1 : Nat} (hk1 : isP k1) {M : Mem}  (h_M : OKb f M)   : ∀ (n : Nat) (x3 : Int32) (x4 : Int32) (hx3 : (0 : Int) ≤ (x3).toInt ∧ (x3).toInt ≤ 4095) (hx4 : (0 : Int) ≤ (x4).toInt ∧ (x4).toInt ≤ 9)   (hmu : 9 - (x4).toInt < n), Sf (mX2_legsHitting_l10 k0 k1 M n x3 x4) (pI (0) (4095)) := by
  intro n
  induction n with
  | zero => intro x3 x4 hx3 hx4 hmu; exfalso; omega
  | succ n IH => intro x3 x4 hx3 hx4 hmu; exact sX2_legsHitting_b10 hk0 hk1 h_M hx3 hx4    IH (by omega)
theorem sX2_legsHitting_l10 {f : Bx} {k0 : Nat} (hk0 : isL k0) {k1 : Nat} (hk1 : isP k1) {M : Mem} {x3 : Int32} {x4 : Int32}  (h_M : OKb f M) (hx3 : (0 : Int) ≤ (x3).toInt ∧ (x3).toInt ≤ 4095) (hx4 : (0 : Int) ≤ (x4).toInt ∧ (x4).toInt ≤ 9)    (hmu : 9 - (x4).toInt < 5000) : Sf (mX2_legsHitting_l10 k0 k1 M 5000 x3 x4) (pI (0) (4095)) :=
  sX2_legsHitting_l10_n hk0 hk1 h_M   5000 _ _ hx3 hx4   hmu
set_option maxHeartbeats 2000000 in
theorem sX2_legsHitting {f : Bx} {k0 : Nat} {k1 : Nat} {M : Mem} (hk0 : isL k0) (hk1 : isP k1) (h_M : OKb f M) : Sf (mX2_legsHitting k0 k1 M) (pI (0) (4095)) := by
  unfold mX2_legsHitting
  have n_1 : ((0 : Int32)).toInt = 0 := rfl
  exact (sX2_legsHitting_l10 hk0 hk1 h_M ⟨by omega, by omega⟩ ⟨by omega, by omega⟩ (by omega))
set_option maxHeartbeats 2000000 in
theorem sX2_touch {f : Bx} {k0 : Nat} {x1 : Int32} {x2 : Int32} {M : Mem} (hk0 : isL k0) (h_M : OKb f M) (hx1 : (2 : Int) ≤ (x1).toInt ∧ (x1).toInt ≤ 8) (hx2 : (0 : Int) ≤ (x2).toInt ∧ (x2).toInt ≤ 6) : Sf (mX2_touch k0 x1 x2 M) (pI (0) (1)) := by
  unfold mX2_touch
  refine Sf.k (ok_in (by omega) (by omega)) ?_
  refine Sf.k (ok_in (by omega) (by omega)) ?_
  refine Sf.i (fun c_1 => ?_) (fun c_1 => ?_)
  · have c_1 := i_lt.mp c_1
    have n_2 : ((0 : Int32)).toInt = 0 := rfl
    have z_3 : (0 : Int) ≤ ((0 : Int32)).toInt ∧ ((0 : Int32)).toInt ≤ 1 := ⟨by omega, by omega⟩
    exact Sf.ok z_3
  · have c_1 := i_nlt c_1
    refine Sf.k (ok_in (by omega) (by omega)) ?_
    refine Sf.k (ok_in (by omega) (by omega)) ?_
    refine Sf.i (fun c_4 => ?_) (fun c_4 => ?_)
    · have c_4 := i_lt.mp c_4
      have n_5 : ((0 : Int32)).toInt = 0 := rfl
      have z_6 : (0 : Int) ≤ ((0 : Int32)).toInt ∧ ((0 : Int32)).toInt ≤ 1 := ⟨by omega, by omega⟩
      exact Sf.ok z_6
    · have c_4 := i_nlt c_4
      refine Sf.k (ok_in (by omega) (by omega)) ?_
      refine Sf.k (ok_in (by omega) (by omega)) ?_
      refine Sf.i (fun c_7 => ?_) (fun c_7 => ?_)
      · have c_7 := i_lt.mp c_7
        have n_8 : ((0 : Int32)).toInt = 0 := rfl
        have z_9 : (0 : Int) ≤ ((0 : Int32)).toInt ∧ ((0 : Int32)).toInt ≤ 1 := ⟨by omega, by omega⟩
        exact Sf.ok z_9
      · have c_7 := i_nlt c_7
        refine Sf.k (ok_in (by omega) (by omega)) ?_
        refine Sf.k (ok_in (by omega) (by omega)) ?_
        refine Sf.i (fun c_10 => ?_) (fun c_10 => ?_)
        · have c_10 := i_lt.mp c_10
          have n_11 : ((0 : Int32)).toInt = 0 := rfl
          have z_12 : (0 : Int) ≤ ((0 : Int32)).toInt ∧ ((0 : Int32)).toInt ≤ 1 := ⟨by omega, by omega⟩
          exact Sf.ok z_12
        · have c_10 := i_nlt c_10
          have n_13 : ((1 : Int32)).toInt = 1 := rfl
          have z_14 : (0 : Int) ≤ ((1 : Int32)).toInt ∧ ((1 : Int32)).toInt ≤ 1 := ⟨by omega, by omega⟩
          exact Sf.ok z_14
set_option maxHeartbeats 2000000 in
theorem sX2_crossesItself_b18 {f : Bx} {k0 : Nat} {M : Mem} {ih2 : Int32 → Option Int32} {ih18 : Int32 → Int32 → Option Int32} {x1 : Int32} {x2 : Int32} {d2 : Nat} {d18 : Nat} (hk0 : isL k0) (h_M : OKb f M) (hx1 : (2 : Int) ≤ (x1).toInt ∧ (x1).toInt ≤ 8) (hx2 : (0 : Int) ≤ (x2).toInt ∧ (x2).toInt ≤ 7) (he0 : (3 : Int) ≤ (rd M k0 6).toInt ∧ (rd M k0 6).toInt ≤ 9) (hih2 : ∀ (yx1 : Int32), ((2 : Int) ≤ (yx1).toInt ∧ (yx1).toInt ≤ 9) → 9 - (yx1).toInt < d2 → Sf (ih2 yx1) (pI (0) (1))) (hmu2 : 9 - (x1).toInt ≤ d2) (hih18 : ∀ (yx1 : Int32) (yx2 : Int32), ((2 : Int) ≤ (yx1).toInt ∧ (yx1).toInt ≤ 8) → ((0 : Int) ≤ (yx2).toInt ∧ (yx2).toInt ≤ 7) → (9 - (yx1).toInt ≤ d2) → 7 - (yx2).toInt < d18 → Sf (ih18 yx1 yx2) (pI (0) (1))) (hmu18 : 7 - (x2).toInt ≤ d18) : Sf (mX2_crossesItself_b18 k0 M ih2 ih18 x1 x2) (pI (0) (1)) := by
  unfold mX2_crossesItself_b18
  have n_1 : ((1 : Int32)).toInt = 1 := rfl
  try have a_2 : ((x1 - (1 : Int32))).toInt = (x1).toInt - ((1 : Int32)).toInt := i_sub (by omega) (by omega)
  refine Sf.i (fun c_3 => ?_) (fun c_3 => ?_)
  · have c_3 := i_le.mp c_3
    try have a_4 : ((x1 + (1 : Int32))).toInt = (x1).toInt + ((1 : Int32)).toInt := i_add (by omega) (by omega)
    refine Sf.b (fun x1_42 e_x1_42 => ?_)
    have d_x1_42 := congrArg Int32.toInt e_x1_42
    exact (hih2 _ ⟨by omega, by omega⟩ (by omega))
  · have c_3 := i_nle c_3
    refine Sf.c (sX2_touch hk0 h_M ⟨by omega, by omega⟩ ⟨by omega, by omega⟩) (fun r6 p_5 => ?_)
    obtain ⟨p_5a, p_5b⟩ := p_5
    have n_6 : ((0 : Int32)).toInt = 0 := rfl
    refine Sf.i (fun c_7 => ?_) (fun c_7 => ?_)
    · have c_7 := i_eq.mp c_7
      try have a_8 : ((x2 + (1 : Int32))).toInt = (x2).toInt + ((1 : Int32)).toInt := i_add (by omega) (by omega)
      refine Sf.b (fun x2_36 e_x2_36 => ?_)
      have d_x2_36 := congrArg Int32.toInt e_x2_36
      exact (hih18 _ _ ⟨by omega, by omega⟩ ⟨by omega, by omega⟩ (by omega) (by omega))
    · have c_7 := i_ne c_7
      have z_9 : (0 : Int) ≤ ((1 : Int32)).toInt ∧ ((1 : Int32)).toInt ≤ 1 := ⟨by omega, by omega⟩
      exact Sf.ok z_9
theorem sX2_crossesItself_l18_n {f : Bx} {k0 : Nat} (hk0 : isL k0) {M : Mem} {ih2 : Int32 → Option Int32} {d2 : Nat} (h_M : OKb f M) (he0 : (3 : Int) ≤ (rd M k0 6).toInt ∧ (rd M k0 6).toInt ≤ 9) (hih2 : ∀ (yx1 : Int32), ((2 : Int) ≤ (yx1).toInt ∧ (yx1).toInt ≤ 9) → 9 - (yx1).toInt < d2 → Sf (ih2 yx1) (pI (0) (1))) : ∀ (n : Nat) (x1 : Int32) (x2 : Int32) (hx1 : (2 : Int) ≤ (x1).toInt ∧ (x1).toInt ≤ 8) (hx2 : (0 : Int) ≤ (x2).toInt ∧ (x2).toInt ≤ 7)  (hmu2 : 9 - (x1).toInt ≤ d2) (hmu : 7 - (x2).toInt < n), Sf (mX2_crossesItself_l18 k0 M ih2 n x1 x2) (pI (0) (1)) := by
  intro n
  induction n with
  | zero => intro x1 x2 hx1 hx2 hmu2 hmu; exfalso; omega
  | succ n IH => intro x1 x2 hx1 hx2 hmu2 hmu; exact sX2_crossesItself_b18 hk0 h_M hx1 hx2 he0  hih2 hmu2 IH (by omega)
theorem sX2_crossesItself_l18 {f : Bx} {k0 : Nat} (hk0 : isL k0) {M : Mem} {x1 : Int32} {x2 : Int32} {ih2 : Int32 → Option Int32} {d2 : Nat} (h_M : OKb f M) (hx1 : (2 : Int) ≤ (x1).toInt ∧ (x1).toInt ≤ 8) (hx2 : (0 : Int) ≤ (x2).toInt ∧ (x2).toInt ≤ 7) (he0 : (3 : Int) ≤ (rd M k0 6).toInt ∧ (rd M k0 6).toInt ≤ 9)  (hih2 : ∀ (yx1 : Int32), ((2 : Int) ≤ (yx1).toInt ∧ (yx1).toInt ≤ 9) → 9 - (yx1).toInt < d2 → Sf (ih2 yx1) (pI (0) (1))) (hmu2 : 9 - (x1).toInt ≤ d2) (hmu : 7 - (x2).toInt < 5000) : Sf (mX2_crossesItself_l18 k0 M ih2 5000 x1 x2) (pI (0) (1)) :=
  sX2_crossesItself_l18_n hk0 h_M he0 hih2 5000 _ _ hx1 hx2  hmu2 hmu
set_option maxHeartbeats 2000000 in
theorem sX2_crossesItself_b2 {f : Bx} {k0 : Nat} {M : Mem} {ih2 : Int32 → Option Int32} {x1 : Int32} {d2 : Nat} (hk0 : isL k0) (h_M : OKb f M) (hx1 : (2 : Int) ≤ (x1).toInt ∧ (x1).toInt ≤ 9) (hih2 : ∀ (yx1 : Int32), ((2 : Int) ≤ (yx1).toInt ∧ (yx1).toInt ≤ 9) → 9 - (yx1).toInt < d2 → Sf (ih2 yx1) (pI (0) (1))) (hmu2 : 9 - (x1).toInt ≤ d2) : Sf (mX2_crossesItself_b2 k0 M ih2 x1) (pI (0) (1)) := by
  unfold mX2_crossesItself_b2
  have b_1 : (0 : Int) ≤ (rd M k0 6).toInt ∧ (rd M k0 6).toInt ≤ 9 := h_M.at (bx_L0 hk0)
  refine Sf.i (fun c_2 => ?_) (fun c_2 => ?_)
  · have c_2 := i_le.mp c_2
    have n_3 : ((0 : Int32)).toInt = 0 := rfl
    have z_4 : (0 : Int) ≤ ((0 : Int32)).toInt ∧ ((0 : Int32)).toInt ≤ 1 := ⟨by omega, by omega⟩
    exact Sf.ok z_4
  · have c_2 := i_nle c_2
    have n_5 : ((9 : Int32)).toInt = 9 := rfl
    refine Sf.i (fun c_6 => ?_) (fun c_6 => ?_)
    · have c_6 := i_le.mp c_6
      exfalso; omega
    · have c_6 := i_nle c_6
      have n_7 : ((0 : Int32)).toInt = 0 := rfl
      exact (sX2_crossesItself_l18 hk0 h_M ⟨by omega, by omega⟩ ⟨by omega, by omega⟩ ⟨by omega, by omega⟩ hih2 (by omega) (by omega))
theorem sX2_crossesItself_l2_n {f : Bx} {k0 : Nat} (hk0 : isL k0) {M : Mem}  (h_M : OKb f M)   : ∀ (n : Nat) (x1 : Int32) (hx1 : (2 : Int) ≤ (x1).toInt ∧ (x1).toInt ≤ 9)   (hmu : 9 - (x1).toInt < n), Sf (mX2_crossesItself_l2 k0 M n x1) (pI (0) (1)) := by
  intro n
  induction n with
  | zero => intro x1 hx1 hmu; exfalso; omega
  | succ n IH => intro x1 hx1 hmu; exact sX2_crossesItself_b2 hk0 h_M hx1    IH (by omega)
theorem sX2_crossesItself_l2 {f : Bx} {k0 : Nat} (hk0 : isL k0) {M : Mem} {x1 : Int32}  (h_M : OKb f M) (hx1 : (2 : Int) ≤ (x1).toInt ∧ (x1).toInt ≤ 9)    (hmu : 9 - (x1).toInt < 5000) : Sf (mX2_crossesItself_l2 k0 M 5000 x1) (pI (0) (1)) :=
  sX2_crossesItself_l2_n hk0 h_M   5000 _ hx1   hmu
set_option maxHeartbeats 2000000 in
theorem sX2_crossesItself {f : Bx} {k0 : Nat} {M : Mem} (hk0 : isL k0) (h_M : OKb f M) : Sf (mX2_crossesItself k0 M) (pI (0) (1)) := by
  unfold mX2_crossesItself
  have n_1 : ((2 : Int32)).toInt = 2 := rfl
  exact (sX2_crossesItself_l2 hk0 h_M ⟨by omega, by omega⟩ (by omega))
set_option maxHeartbeats 2000000 in
theorem sX2_reasonFor_b20 {f : Bx} {k0 : Nat} {k1 : Nat} {x2 : Int32} {x3 : Int32} {x4 : Int32} {y0 : Int32} {M : Mem} (hk0 : isL k0) (hk1 : isP k1) (h_M : OKb f M) (hx2 : (0 : Int) ≤ (x2).toInt ∧ (x2).toInt ≤ 255) (hx3 : (0 : Int) ≤ (x3).toInt ∧ (x3).toInt ≤ 15) (hx4 : (0 : Int) ≤ (x4).toInt ∧ (x4).toInt ≤ 7) (hy0 : (0 : Int) ≤ (y0).toInt ∧ (y0).toInt ≤ 8) : Sf (mX2_reasonFor_b20 k0 k1 x2 x3 x4 y0 M) (pMI f (0) (6)) := by
  unfold mX2_reasonFor_b20
  try have a_1 := i_shr (a := x2) (b := x4) (by omega)
  have n_2 : ((1 : Int32)).toInt = 1 := rfl
  try have a_3 := i_and (a := (x2 >>> (x4 &&& 31))) (b := (1 : Int32)) (by omega)
  try have a_4 := i_andr (a := (x2 >>> (x4 &&& 31))) (b := (1 : Int32)) (by omega)
  have n_5 : ((0 : Int32)).toInt = 0 := rfl
  refine Sf.i (fun c_6 => ?_) (fun c_6 => ?_)
  · have c_6 := i_eq.mp c_6
    refine Sf.i (fun c_7 => ?_) (fun c_7 => ?_)
    · have c_7 := i_lt.mp c_7
      exfalso; omega
    · have c_7 := i_nlt c_7
      have n_8 : ((9 : Int32)).toInt = 9 := rfl
      refine Sf.i (fun c_9 => ?_) (fun c_9 => ?_)
      · have c_9 := i_le.mp c_9
        exfalso; omega
      · have c_9 := i_nle c_9
        refine Sf.k (ok_in (by omega) (by omega)) ?_
        have n_10 : ((8 : Int32)).toInt = 8 := rfl
        refine Sf.k (ok_in (by omega) (by omega)) ?_
        have b_11 : (0 : Int) ≤ (rd M (k1 + 1) ((y0).toNatClampNeg)).toInt ∧ (rd M (k1 + 1) ((y0).toNatClampNeg)).toInt ≤ 9999 := h_M.at (bx_P (c := 1) hk1 (by omega))
        refine Sf.i (fun c_12 => ?_) (fun c_12 => ?_)
        · have c_12 := i_le.mp c_12
          refine Sf.m (sX2_layStep hk0 hk1 h_M ⟨by omega, by omega⟩ ⟨by omega, by omega⟩) (fun M11 _ h_M11 => ?_)
          have h_M11 : OKb f M11 := h_M11
          refine Sf.c (sX2_reachToBack hk0 h_M11) (fun r13 p_14 => ?_)
          obtain ⟨p_14a, p_14b⟩ := p_14
          have n_15 : ((6 : Int32)).toInt = 6 := rfl
          refine Sf.k (ok_in (by omega) (by omega)) ?_
          refine Sf.i (fun c_16 => ?_) (fun c_16 => ?_)
          · have c_16 := i_lt.mp c_16
            have n_17 : ((3 : Int32)).toInt = 3 := rfl
            have z_18 : (0 : Int) ≤ ((3 : Int32)).toInt ∧ ((3 : Int32)).toInt ≤ 6 := ⟨by omega, by omega⟩
            exact Sf.ok ⟨h_M11, z_18⟩
          · have c_16 := i_nlt c_16
            have n_19 : ((7 : Int32)).toInt = 7 := rfl
            refine Sf.k (ok_in (by omega) (by omega)) ?_
            refine Sf.i (fun c_20 => ?_) (fun c_20 => ?_)
            · have c_20 := i_le.mp c_20
              refine Sf.c (sX2_legsHitting hk0 hk1 h_M11) (fun r20 p_21 => ?_)
              obtain ⟨p_21a, p_21b⟩ := p_21
              have b_22 : (0 : Int) ≤ (rd M11 k0 7).toInt ∧ (rd M11 k0 7).toInt ≤ 8 := h_M11.at (bx_L0 hk0)
              try have a_23 : 0 < (((1 : Int32) <<< ((rd M11 k0 7) &&& 31))).toInt ∧ (((1 : Int32) <<< ((rd M11 k0 7) &&& 31))).toInt ≤ 256 := i_shl 8 (by decide) ⟨by omega, by omega⟩
              refine Sf.b (fun x8_123 e_x8_123 => ?_)
              have d_x8_123 := congrArg Int32.toInt e_x8_123
              try have a_24 := i_and (a := r20) (b := x8_123) (by omega)
              refine Sf.i (fun c_25 => ?_) (fun c_25 => ?_)
              · have c_25 := i_eq.mp c_25
                refine Sf.i (fun c_26 => ?_) (fun c_26 => ?_)
                · have c_26 := i_eq.mp c_26
                  refine Sf.c (sX2_crossesItself hk0 h_M11) (fun r26 p_27 => ?_)
                  obtain ⟨p_27a, p_27b⟩ := p_27
                  refine Sf.i (fun c_28 => ?_) (fun c_28 => ?_)
                  · have c_28 := i_eq.mp c_28
                    have n_29 : ((0 : Int32)).toInt = 0 := rfl
                    have z_30 : (0 : Int) ≤ ((0 : Int32)).toInt ∧ ((0 : Int32)).toInt ≤ 6 := ⟨by omega, by omega⟩
                    exact Sf.ok ⟨h_M11, z_30⟩
                  · have c_28 := i_ne c_28
                    have z_31 : (0 : Int) ≤ ((6 : Int32)).toInt ∧ ((6 : Int32)).toInt ≤ 6 := ⟨by omega, by omega⟩
                    exact Sf.ok ⟨h_M11, z_31⟩
                · have c_26 := i_ne c_26
                  have n_32 : ((5 : Int32)).toInt = 5 := rfl
                  have z_33 : (0 : Int) ≤ ((5 : Int32)).toInt ∧ ((5 : Int32)).toInt ≤ 6 := ⟨by omega, by omega⟩
                  exact Sf.ok ⟨h_M11, z_33⟩
              · have c_25 := i_ne c_25
                have n_34 : ((4 : Int32)).toInt = 4 := rfl
                have z_35 : (0 : Int) ≤ ((4 : Int32)).toInt ∧ ((4 : Int32)).toInt ≤ 6 := ⟨by omega, by omega⟩
                exact Sf.ok ⟨h_M11, z_35⟩
            · have c_20 := i_nle c_20
              have n_36 : ((3 : Int32)).toInt = 3 := rfl
              have z_37 : (0 : Int) ≤ ((3 : Int32)).toInt ∧ ((3 : Int32)).toInt ≤ 6 := ⟨by omega, by omega⟩
              exact Sf.ok ⟨h_M11, z_37⟩
        · have c_12 := i_nle c_12
          have n_38 : ((2 : Int32)).toInt = 2 := rfl
          have z_39 : (0 : Int) ≤ ((2 : Int32)).toInt ∧ ((2 : Int32)).toInt ≤ 6 := ⟨by omega, by omega⟩
          exact Sf.ok ⟨h_M, z_39⟩
  · have c_6 := i_ne c_6
    have z_40 : (0 : Int) ≤ ((1 : Int32)).toInt ∧ ((1 : Int32)).toInt ≤ 6 := ⟨by omega, by omega⟩
    exact Sf.ok ⟨h_M, z_40⟩
set_option maxHeartbeats 2000000 in
theorem sX2_reasonFor {f : Bx} {k0 : Nat} {k1 : Nat} {x2 : Int32} {x3 : Int32} {M : Mem} (hk0 : isL k0) (hk1 : isP k1) (h_M : OKb f M) (hx2 : (0 : Int) ≤ (x2).toInt ∧ (x2).toInt ≤ 255) (hx3 : (0 : Int) ≤ (x3).toInt ∧ (x3).toInt ≤ 15) : Sf (mX2_reasonFor k0 k1 x2 x3 M) (pMI f (0) (6)) := by
  unfold mX2_reasonFor
  try have a_1 := i_shr1 (a := x3)
  refine Sf.b (fun x4_3 e_x4_3 => ?_)
  have d_x4_3 := congrArg Int32.toInt e_x4_3
  have n_2 : ((1 : Int32)).toInt = 1 := rfl
  try have a_3 := i_and (a := x3) (b := (1 : Int32)) (by omega)
  try have a_4 := i_andr (a := x3) (b := (1 : Int32)) (by omega)
  have n_5 : ((0 : Int32)).toInt = 0 := rfl
  refine Sf.i (fun c_6 => ?_) (fun c_6 => ?_)
  · have c_6 := i_eq.mp c_6
    try have a_7 : ((x4_3 + (1 : Int32))).toInt = (x4_3).toInt + ((1 : Int32)).toInt := i_add (by omega) (by omega)
    exact (sX2_reasonFor_b20 hk0 hk1 h_M ⟨by omega, by omega⟩ ⟨by omega, by omega⟩ ⟨by omega, by omega⟩ ⟨by omega, by omega⟩)
  · have c_6 := i_ne c_6
    exact (sX2_reasonFor_b20 hk0 hk1 h_M ⟨by omega, by omega⟩ ⟨by omega, by omega⟩ ⟨by omega, by omega⟩ ⟨by omega, by omega⟩)
set_option maxHeartbeats 2000000 in
theorem sX2_possibleSteps_b34 {f : Bx} {k0 : Nat} {k1 : Nat} {ih5 : Int32 → Int32 → Int32 → Mem → Option (Mem × Int32)} {x2 : Int32} {x3 : Int32} {x4 : Int32} {M : Mem} {d5 : Nat} (hk0 : isL k0) (hk1 : isP k1) (h_M : OKb f M) (hx2 : (0 : Int) ≤ (x2).toInt ∧ (x2).toInt ≤ 255) (hx3 : (0 : Int) ≤ (x3).toInt ∧ (x3).toInt ≤ 65535) (hx4 : (0 : Int) ≤ (x4).toInt ∧ (x4).toInt ≤ 15) (hih5 : ∀ (yx2 : Int32) (yx3 : Int32) (yx4 : Int32) (M : Mem), OKb f M → ((0 : Int) ≤ (yx2).toInt ∧ (yx2).toInt ≤ 255) → ((0 : Int) ≤ (yx3).toInt ∧ (yx3).toInt ≤ 65535) → ((0 : Int) ≤ (yx4).toInt ∧ (yx4).toInt ≤ 16) → 16 - (yx4).toInt < d5 → Sf (ih5 yx2 yx3 yx4 M) (pMI f (0) (65535))) (hmu5 : 16 - (x4).toInt ≤ d5) : Sf (mX2_possibleSteps_b34 k0 k1 ih5 x2 x3 x4 M) (pMI f (0) (65535)) := by
  unfold mX2_possibleSteps_b34
  have n_1 : ((1 : Int32)).toInt = 1 := rfl
  try have a_2 : ((x4 + (1 : Int32))).toInt = (x4).toInt + ((1 : Int32)).toInt := i_add (by omega) (by omega)
  refine Sf.b (fun x4_34 e_x4_34 => ?_)
  have d_x4_34 := congrArg Int32.toInt e_x4_34
  exact (hih5 _ _ _ _ h_M ⟨by omega, by omega⟩ ⟨by omega, by omega⟩ ⟨by omega, by omega⟩ (by omega))
set_option maxHeartbeats 2000000 in
theorem sX2_possibleSteps_b5 {f : Bx} {k0 : Nat} {k1 : Nat} {ih5 : Int32 → Int32 → Int32 → Mem → Option (Mem × Int32)} {x2 : Int32} {x3 : Int32} {x4 : Int32} {M : Mem} {d5 : Nat} (hk0 : isL k0) (hk1 : isP k1) (h_M : OKb f M) (hx2 : (0 : Int) ≤ (x2).toInt ∧ (x2).toInt ≤ 255) (hx3 : (0 : Int) ≤ (x3).toInt ∧ (x3).toInt ≤ 65535) (hx4 : (0 : Int) ≤ (x4).toInt ∧ (x4).toInt ≤ 16) (hih5 : ∀ (yx2 : Int32) (yx3 : Int32) (yx4 : Int32) (M : Mem), OKb f M → ((0 : Int) ≤ (yx2).toInt ∧ (yx2).toInt ≤ 255) → ((0 : Int) ≤ (yx3).toInt ∧ (yx3).toInt ≤ 65535) → ((0 : Int) ≤ (yx4).toInt ∧ (yx4).toInt ≤ 16) → 16 - (yx4).toInt < d5 → Sf (ih5 yx2 yx3 yx4 M) (pMI f (0) (65535))) (hmu5 : 16 - (x4).toInt ≤ d5) : Sf (mX2_possibleSteps_b5 k0 k1 ih5 x2 x3 x4 M) (pMI f (0) (65535)) := by
  unfold mX2_possibleSteps_b5
  refine Sf.c (sX1_bendCount hk1 h_M) (fun r2 p_1 => ?_)
  obtain ⟨p_1a, p_1b⟩ := p_1
  have n_2 : ((2 : Int32)).toInt = 2 := rfl
  try have a_3 : (((2 : Int32) * r2)).toInt = 2 * (r2).toInt := i_mulc (by omega) (by omega) (by omega)
  refine Sf.i (fun c_4 => ?_) (fun c_4 => ?_)
  · have c_4 := i_le.mp c_4
    have z_5 : (0 : Int) ≤ (x3).toInt ∧ (x3).toInt ≤ 65535 := ⟨by omega, by omega⟩
    exact Sf.ok ⟨h_M, z_5⟩
  · have c_4 := i_nle c_4
    refine Sf.m (sX2_reasonFor hk0 hk1 h_M ⟨by omega, by omega⟩ ⟨by omega, by omega⟩) (fun M7 r6 p_6 => ?_)
    have h_M7 : OKb f M7 := p_6.1
    have p_6 : (0 : Int) ≤ (r6).toInt ∧ _ ≤ (6 : Int) := p_6.2
    have n_7 : ((0 : Int32)).toInt = 0 := rfl
    refine Sf.i (fun c_8 => ?_) (fun c_8 => ?_)
    · have c_8 := i_eq.mp c_8
      try have a_9 : 0 < (((1 : Int32) <<< (x4 &&& 31))).toInt ∧ (((1 : Int32) <<< (x4 &&& 31))).toInt ≤ 32768 := i_shl 15 (by decide) ⟨by omega, by omega⟩
      try have a_10 : 0 ≤ ((x3 ||| ((1 : Int32) <<< (x4 &&& 31)))).toInt ∧ ((x3 ||| ((1 : Int32) <<< (x4 &&& 31)))).toInt < 65536 := i_or 16 (by decide) ⟨by omega, by omega⟩ ⟨by omega, by omega⟩
      refine Sf.b (fun x3_33 e_x3_33 => ?_)
      have d_x3_33 := congrArg Int32.toInt e_x3_33
      exact (sX2_possibleSteps_b34 hk0 hk1 h_M7 ⟨by omega, by omega⟩ ⟨by omega, by omega⟩ ⟨by omega, by omega⟩ hih5 (by omega))
    · have c_8 := i_ne c_8
      exact (sX2_possibleSteps_b34 hk0 hk1 h_M7 ⟨by omega, by omega⟩ ⟨by omega, by omega⟩ ⟨by omega, by omega⟩ hih5 (by omega))
theorem sX2_possibleSteps_l5_n {f : Bx} {k0 : Nat} (hk0 : isL k0) {k1 : Nat} (hk1 : isP k1)   : ∀ (n : Nat) (x2 : Int32) (x3 : Int32) (x4 : Int32) (M : Mem) (h_M : OKb f M) (hx2 : (0 : Int) ≤ (x2).toInt ∧ (x2).toInt ≤ 255) (hx3 : (0 : Int) ≤ (x3).toInt ∧ (x3).toInt ≤ 65535) (hx4 : (0 : Int) ≤ (x4).toInt ∧ (x4).toInt ≤ 16)    (hmu : 16 - (x4).toInt < n), Sf (mX2_possibleSteps_l5 k0 k1 n x2 x3 x4 M) (pMI f (0) (65535)) := by
  intro n
  induction n with
  | zero => intro x2 x3 x4 M h_M hx2 hx3 hx4 hmu; exfalso; omega
  | succ n IH => intro x2 x3 x4 M h_M hx2 hx3 hx4 hmu; exact sX2_possibleSteps_b5 hk0 hk1 h_M hx2 hx3 hx4    IH (by omega)
theorem sX2_possibleSteps_l5 {f : Bx} {k0 : Nat} (hk0 : isL k0) {k1 : Nat} (hk1 : isP k1) {x2 : Int32} {x3 : Int32} {x4 : Int32} {M : Mem}  (h_M : OKb f M) (hx2 : (0 : Int) ≤ (x2).toInt ∧ (x2).toInt ≤ 255) (hx3 : (0 : Int) ≤ (x3).toInt ∧ (x3).toInt ≤ 65535) (hx4 : (0 : Int) ≤ (x4).toInt ∧ (x4).toInt ≤ 16)    (hmu : 16 - (x4).toInt < 5000) : Sf (mX2_possibleSteps_l5 k0 k1 5000 x2 x3 x4 M) (pMI f (0) (65535)) :=
  sX2_possibleSteps_l5_n hk0 hk1  5000 _ _ _ M h_M hx2 hx3 hx4    hmu
set_option maxHeartbeats 2000000 in
theorem sX2_possibleSteps {f : Bx} {k0 : Nat} {k1 : Nat} {x2 : Int32} {M : Mem} (hk0 : isL k0) (hk1 : isP k1) (h_M : OKb f M) (hx2 : (0 : Int) ≤ (x2).toInt ∧ (x2).toInt ≤ 255) : Sf (mX2_possibleSteps k0 k1 x2 M) (pMI f (0) (65535)) := by
  unfold mX2_possibleSteps
  have n_1 : ((0 : Int32)).toInt = 0 := rfl
  exact (sX2_possibleSteps_l5 hk0 hk1 h_M ⟨by omega, by omega⟩ ⟨by omega, by omega⟩ ⟨by omega, by omega⟩ (by omega))
set_option maxHeartbeats 2000000 in
theorem sJ6_bitCount_0f7a4 {f : Bx} {x0 : Int32} {M : Mem} (h_M : OKb f M) (hx0 : (0 : Int) ≤ (x0).toInt ∧ (x0).toInt ≤ 255) : Sf (mJ6_bitCount_0f7a4 x0 M) (pI (0) (63)) := by
  unfold mJ6_bitCount_0f7a4
  have n_1 : ((1431655765 : Int32)).toInt = 1431655765 := rfl
  try have a_2 := i_and (a := (((x0).toUInt32 >>> (((1 : Int32)).toUInt32 &&& (Int32.toUInt32 31)))).toInt32) (b := (1431655765 : Int32)) (by omega)
  try have a_3 := i_andr (a := (((x0).toUInt32 >>> (((1 : Int32)).toUInt32 &&& (Int32.toUInt32 31)))).toInt32) (b := (1431655765 : Int32)) (by omega)
  try have a_4 : ((x0 - ((((x0).toUInt32 >>> (((1 : Int32)).toUInt32 &&& (Int32.toUInt32 31)))).toInt32 &&& (1431655765 : Int32)))).toInt = (x0).toInt - (((((x0).toUInt32 >>> (((1 : Int32)).toUInt32 &&& (Int32.toUInt32 31)))).toInt32 &&& (1431655765 : Int32))).toInt := i_sub (by omega) (by omega)
  refine Sf.b (fun x0_9 e_x0_9 => ?_)
  have d_x0_9 := congrArg Int32.toInt e_x0_9
  have n_5 : ((858993459 : Int32)).toInt = 858993459 := rfl
  try have a_6 := i_andr (a := x0_9) (b := (858993459 : Int32)) (by omega)
  try have a_7 := i_and (a := (((x0_9).toUInt32 >>> (((2 : Int32)).toUInt32 &&& (Int32.toUInt32 31)))).toInt32) (b := (858993459 : Int32)) (by omega)
  try have a_8 := i_andr (a := (((x0_9).toUInt32 >>> (((2 : Int32)).toUInt32 &&& (Int32.toUInt32 31)))).toInt32) (b := (858993459 : Int32)) (by omega)
  try have a_9 : (((x0_9 &&& (858993459 : Int32)) + ((((x0_9).toUInt32 >>> (((2 : Int32)).toUInt32 &&& (Int32.toUInt32 31)))).toInt32 &&& (858993459 : Int32)))).toInt = ((x0_9 &&& (858993459 : Int32))).toInt + (((((x0_9).toUInt32 >>> (((2 : Int32)).toUInt32 &&& (Int32.toUInt32 31)))).toInt32 &&& (858993459 : Int32))).toInt := i_add (by omega) (by omega)
  refine Sf.b (fun x0_23 e_x0_23 => ?_)
  have d_x0_23 := congrArg Int32.toInt e_x0_23
  try have a_10 : ((x0_23 + (((x0_23).toUInt32 >>> (((4 : Int32)).toUInt32 &&& (Int32.toUInt32 31)))).toInt32)).toInt = (x0_23).toInt + ((((x0_23).toUInt32 >>> (((4 : Int32)).toUInt32 &&& (Int32.toUInt32 31)))).toInt32).toInt := i_add (by omega) (by omega)
  have n_11 : ((252645135 : Int32)).toInt = 252645135 := rfl
  try have a_12 := i_and (a := (x0_23 + (((x0_23).toUInt32 >>> (((4 : Int32)).toUInt32 &&& (Int32.toUInt32 31)))).toInt32)) (b := (252645135 : Int32)) (by omega)
  try have a_13 := i_andr (a := (x0_23 + (((x0_23).toUInt32 >>> (((4 : Int32)).toUInt32 &&& (Int32.toUInt32 31)))).toInt32)) (b := (252645135 : Int32)) (by omega)
  refine Sf.b (fun x0_33 e_x0_33 => ?_)
  have d_x0_33 := congrArg Int32.toInt e_x0_33
  try have a_14 : ((x0_33 + (((x0_33).toUInt32 >>> (((8 : Int32)).toUInt32 &&& (Int32.toUInt32 31)))).toInt32)).toInt = (x0_33).toInt + ((((x0_33).toUInt32 >>> (((8 : Int32)).toUInt32 &&& (Int32.toUInt32 31)))).toInt32).toInt := i_add (by omega) (by omega)
  refine Sf.b (fun x0_40 e_x0_40 => ?_)
  have d_x0_40 := congrArg Int32.toInt e_x0_40
  try have a_15 : ((x0_40 + (((x0_40).toUInt32 >>> (((16 : Int32)).toUInt32 &&& (Int32.toUInt32 31)))).toInt32)).toInt = (x0_40).toInt + ((((x0_40).toUInt32 >>> (((16 : Int32)).toUInt32 &&& (Int32.toUInt32 31)))).toInt32).toInt := i_add (by omega) (by omega)
  refine Sf.b (fun x0_47 e_x0_47 => ?_)
  have d_x0_47 := congrArg Int32.toInt e_x0_47
  have n_16 : ((63 : Int32)).toInt = 63 := rfl
  try have a_17 := i_and (a := x0_47) (b := (63 : Int32)) (by omega)
  try have a_18 := i_andr (a := x0_47) (b := (63 : Int32)) (by omega)
  have z_19 : (0 : Int) ≤ ((x0_47 &&& (63 : Int32))).toInt ∧ ((x0_47 &&& (63 : Int32))).toInt ≤ 63 := ⟨by omega, by omega⟩
  exact Sf.ok z_19
set_option maxHeartbeats 2000000 in
theorem sX0_forgetAll {f : Bx} {M : Mem} (h_M : OKb f M) : Sf (mX0_forgetAll 21 M) (pM f) := by
  unfold mX0_forgetAll
  have n_1 : ((0 : Int32)).toInt = 0 := rfl
  have z_2 : (0 : Int) ≤ ((0 : Int32)).toInt ∧ ((0 : Int32)).toInt ≤ 10 := ⟨by omega, by omega⟩
  refine Sf.b (fun M1 e_M1 => ?_)
  have h_M1 : OKb f M1 := by rw [e_M1]; exact h_M.put rfl z_2
  exact Sf.ok h_M1
set_option maxHeartbeats 2000000 in
theorem sX0_remember_b32 {f : Bx} {k1 : Nat} {M : Mem} (hk1 : isP k1) (h_M : OKb f M) (he0 : (0 : Int) ≤ (rd M 21 2).toInt ∧ (rd M 21 2).toInt ≤ 9) (hxx : (rd M 21 2).toInt ≤ 9) : Sf (mX0_remember_b32 21 k1 M) (pM f) := by
  unfold mX0_remember_b32
  have b_1 : (0 : Int) ≤ (rd M 21 1).toInt ∧ (rd M 21 1).toInt ≤ 9 := h_M.at rfl
  have b_2 : (0 : Int) ≤ (rd M 21 2).toInt ∧ (rd M 21 2).toInt ≤ 10 := h_M.at rfl
  try have a_3 : (((rd M 21 1) + (rd M 21 2))).toInt = ((rd M 21 1)).toInt + ((rd M 21 2)).toInt := i_add (by omega) (by omega)
  have n_4 : ((10 : Int32)).toInt = 10 := rfl
  try have a_5 : ((((rd M 21 1) + (rd M 21 2)) / (10 : Int32))).toInt = (((rd M 21 1) + (rd M 21 2))).toInt / 10 := (i_div (by omega) (by omega)).trans (by rw [show ((10 : Int32)).toInt = 10 from rfl])
  try have a_6 : (((((rd M 21 1) + (rd M 21 2)) / (10 : Int32)) * (10 : Int32))).toInt = ((((rd M 21 1) + (rd M 21 2)) / (10 : Int32))).toInt * 10 := i_mulr (by omega) (by omega) (by omega)
  try have a_7 : ((((rd M 21 1) + (rd M 21 2)) - ((((rd M 21 1) + (rd M 21 2)) / (10 : Int32)) * (10 : Int32)))).toInt = (((rd M 21 1) + (rd M 21 2))).toInt - (((((rd M 21 1) + (rd M 21 2)) / (10 : Int32)) * (10 : Int32))).toInt := i_sub (by omega) (by omega)
  refine Sf.k (ok_in (by omega) (by omega)) ?_
  refine Sf.m (sX1_copyFrom (isP_h (by first | omega | (rw [i_clamp]; omega))) hk1 h_M) (fun M5 _ p_8 => ?_)
  have h_M5 : OKb f M5 := p_8.1
  have gq_M5 : ∀ j, rd M5 21 j = rd M 21 j := p_8.2
  have gi_M51 := congrArg Int32.toInt (gq_M5 1)
  have gi_M52 := congrArg Int32.toInt (gq_M5 2)
  have b_9 : (0 : Int) ≤ (rd M5 21 2).toInt ∧ (rd M5 21 2).toInt ≤ 10 := h_M5.at rfl
  have n_10 : ((1 : Int32)).toInt = 1 := rfl
  try have a_11 : (((rd M5 21 2) + (1 : Int32))).toInt = ((rd M5 21 2)).toInt + ((1 : Int32)).toInt := i_add (by omega) (by omega)
  have z_12 : (0 : Int) ≤ (((rd M5 21 2) + (1 : Int32))).toInt ∧ (((rd M5 21 2) + (1 : Int32))).toInt ≤ 10 := ⟨by omega, by omega⟩
  refine Sf.b (fun M6 e_M6 => ?_)
  have h_M6 : OKb f M6 := by rw [e_M6]; exact h_M5.put rfl z_12
  exact Sf.ok h_M6
set_option maxHeartbeats 2000000 in
theorem sX0_remember {f : Bx} {k1 : Nat} {M : Mem} (hk1 : isP k1) (h_M : OKb f M) : Sf (mX0_remember 21 k1 M) (pM f) := by
  unfold mX0_remember
  have b_1 : (0 : Int) ≤ (rd M 21 2).toInt ∧ (rd M 21 2).toInt ≤ 10 := h_M.at rfl
  have n_2 : ((10 : Int32)).toInt = 10 := rfl
  refine Sf.i (fun c_3 => ?_) (fun c_3 => ?_)
  · have c_3 := i_eq.mp c_3
    have b_4 : (0 : Int) ≤ (rd M 21 1).toInt ∧ (rd M 21 1).toInt ≤ 9 := h_M.at rfl
    have n_5 : ((1 : Int32)).toInt = 1 := rfl
    try have a_6 : (((rd M 21 1) + (1 : Int32))).toInt = ((rd M 21 1)).toInt + ((1 : Int32)).toInt := i_add (by omega) (by omega)
    try have a_7 : ((((rd M 21 1) + (1 : Int32)) / (10 : Int32))).toInt = (((rd M 21 1) + (1 : Int32))).toInt / 10 := (i_div (by omega) (by omega)).trans (by rw [show ((10 : Int32)).toInt = 10 from rfl])
    try have a_8 : (((((rd M 21 1) + (1 : Int32)) / (10 : Int32)) * (10 : Int32))).toInt = ((((rd M 21 1) + (1 : Int32)) / (10 : Int32))).toInt * 10 := i_mulr (by omega) (by omega) (by omega)
    try have a_9 : ((((rd M 21 1) + (1 : Int32)) - ((((rd M 21 1) + (1 : Int32)) / (10 : Int32)) * (10 : Int32)))).toInt = (((rd M 21 1) + (1 : Int32))).toInt - (((((rd M 21 1) + (1 : Int32)) / (10 : Int32)) * (10 : Int32))).toInt := i_sub (by omega) (by omega)
    have z_10 : (0 : Int) ≤ ((((rd M 21 1) + (1 : Int32)) - ((((rd M 21 1) + (1 : Int32)) / (10 : Int32)) * (10 : Int32)))).toInt ∧ ((((rd M 21 1) + (1 : Int32)) - ((((rd M 21 1) + (1 : Int32)) / (10 : Int32)) * (10 : Int32)))).toInt ≤ 9 := ⟨by omega, by omega⟩
    refine Sf.b (fun M8 e_M8 => ?_)
    have h_M8 : OKb f M8 := by rw [e_M8]; exact h_M.put rfl z_10
    have w_11 : (rd M8 21 2).toInt = (rd M 21 2).toInt := by rw [e_M8, rd_wj (by decide)]
    try have a_12 : (((rd M8 21 2) - (1 : Int32))).toInt = ((rd M8 21 2)).toInt - ((1 : Int32)).toInt := i_sub (by omega) (by omega)
    have z_13 : (0 : Int) ≤ (((rd M8 21 2) - (1 : Int32))).toInt ∧ (((rd M8 21 2) - (1 : Int32))).toInt ≤ 10 := ⟨by omega, by omega⟩
    refine Sf.b (fun M10 e_M10 => ?_)
    have h_M10 : OKb f M10 := by rw [e_M10]; exact h_M8.put rfl z_13
    have w_14 : (rd M10 21 2).toInt = (((rd M8 21 2) - (1 : Int32))).toInt := by rw [e_M10, rd_we]
    exact (sX0_remember_b32 hk1 h_M10 ⟨by omega, by omega⟩ (by omega))
  · have c_3 := i_ne c_3
    exact (sX0_remember_b32 hk1 h_M ⟨by omega, by omega⟩ (by omega))
set_option maxHeartbeats 2000000 in
theorem sX0_takeBack {f : Bx} {k1 : Nat} {M : Mem} (hk1 : isP k1) (h_M : OKb f M) : Sf (mX0_takeBack 21 k1 M) (pMI f (0) (1)) := by
  unfold mX0_takeBack
  have b_1 : (0 : Int) ≤ (rd M 21 2).toInt ∧ (rd M 21 2).toInt ≤ 10 := h_M.at rfl
  have n_2 : ((0 : Int32)).toInt = 0 := rfl
  refine Sf.i (fun c_3 => ?_) (fun c_3 => ?_)
  · have c_3 := i_eq.mp c_3
    have n_4 : ((0 : Int32)).toInt = 0 := rfl
    have z_5 : (0 : Int) ≤ ((0 : Int32)).toInt ∧ ((0 : Int32)).toInt ≤ 1 := ⟨by omega, by omega⟩
    exact Sf.ok ⟨h_M, z_5⟩
  · have c_3 := i_ne c_3
    have n_6 : ((1 : Int32)).toInt = 1 := rfl
    try have a_7 : (((rd M 21 2) - (1 : Int32))).toInt = ((rd M 21 2)).toInt - ((1 : Int32)).toInt := i_sub (by omega) (by omega)
    have z_8 : (0 : Int) ≤ (((rd M 21 2) - (1 : Int32))).toInt ∧ (((rd M 21 2) - (1 : Int32))).toInt ≤ 10 := ⟨by omega, by omega⟩
    refine Sf.b (fun M2 e_M2 => ?_)
    have h_M2 : OKb f M2 := by rw [e_M2]; exact h_M.put rfl z_8
    have w_9 : (rd M2 21 1).toInt = (rd M 21 1).toInt := by rw [e_M2, rd_wj (by decide)]
    have b_10 : (0 : Int) ≤ (rd M 21 1).toInt ∧ (rd M 21 1).toInt ≤ 9 := h_M.at rfl
    have w_11 : (rd M2 21 2).toInt = (((rd M 21 2) - (1 : Int32))).toInt := by rw [e_M2, rd_we]
    try have a_12 : (((rd M2 21 1) + (rd M2 21 2))).toInt = ((rd M2 21 1)).toInt + ((rd M2 21 2)).toInt := i_add (by omega) (by omega)
    have n_13 : ((10 : Int32)).toInt = 10 := rfl
    try have a_14 : ((((rd M2 21 1) + (rd M2 21 2)) / (10 : Int32))).toInt = (((rd M2 21 1) + (rd M2 21 2))).toInt / 10 := (i_div (by omega) (by omega)).trans (by rw [show ((10 : Int32)).toInt = 10 from rfl])
    try have a_15 : (((((rd M2 21 1) + (rd M2 21 2)) / (10 : Int32)) * (10 : Int32))).toInt = ((((rd M2 21 1) + (rd M2 21 2)) / (10 : Int32))).toInt * 10 := i_mulr (by omega) (by omega) (by omega)
    try have a_16 : ((((rd M2 21 1) + (rd M2 21 2)) - ((((rd M2 21 1) + (rd M2 21 2)) / (10 : Int32)) * (10 : Int32)))).toInt = (((rd M2 21 1) + (rd M2 21 2))).toInt - (((((rd M2 21 1) + (rd M2 21 2)) / (10 : Int32)) * (10 : Int32))).toInt := i_sub (by omega) (by omega)
    refine Sf.k (ok_in (by omega) (by omega)) ?_
    refine Sf.m (sX1_copyFrom hk1 (isP_h (by first | omega | (rw [i_clamp]; omega))) h_M2) (fun M7 _ p_17 => ?_)
    have h_M7 : OKb f M7 := p_17.1
    have gq_M7 : ∀ j, rd M7 21 j = rd M2 21 j := p_17.2
    have gi_M71 := congrArg Int32.toInt (gq_M7 1)
    have gi_M72 := congrArg Int32.toInt (gq_M7 2)
    have z_18 : (0 : Int) ≤ ((1 : Int32)).toInt ∧ ((1 : Int32)).toInt ≤ 1 := ⟨by omega, by omega⟩
    exact Sf.ok ⟨h_M7, z_18⟩
end
/-! part 54.s3 -/
section
set_option maxHeartbeats 2000000 in
theorem sX3_forgetSteps_b2 {f : Bx} {ih2 : Int32 → Mem → Option (Mem × Unit)} {x1 : Int32} {M : Mem} {d2 : Nat} (h_M : OKb f M) (hx1 : (0 : Int) ≤ (x1).toInt ∧ (x1).toInt ≤ 256) (hih2 : ∀ (yx1 : Int32) (M : Mem), OKb f M → ((0 : Int) ≤ (yx1).toInt ∧ (yx1).toInt ≤ 256) → 256 - (yx1).toInt < d2 → Sf (ih2 yx1 M) (pM f)) (hmu2 : 256 - (x1).toInt ≤ d2) : Sf (mX3_forgetSteps_b2 110 ih2 x1 M) (pM f) := by
  unfold mX3_forgetSteps_b2
  have n_1 : ((256 : Int32)).toInt = 256 := rfl
  refine Sf.i (fun c_2 => ?_) (fun c_2 => ?_)
  · have c_2 := i_le.mp c_2
    exact Sf.ok h_M
  · have c_2 := i_nle c_2
    refine Sf.k (ok_in (by omega) (by omega)) ?_
    have n_3 : (((-1) : Int32)).toInt = -1 := rfl
    have g_4 := i_rng ((-1) : Int32)
    have z_5 : (-1 : Int) ≤ (((-1) : Int32)).toInt ∧ (((-1) : Int32)).toInt ≤ 2147483647 := ⟨by omega, by omega⟩
    refine Sf.b (fun M4 e_M4 => ?_)
    have h_M4 : OKb f M4 := by rw [e_M4]; exact h_M.put rfl z_5
    have n_6 : ((1 : Int32)).toInt = 1 := rfl
    try have a_7 : ((x1 + (1 : Int32))).toInt = (x1).toInt + ((1 : Int32)).toInt := i_add (by omega) (by omega)
    refine Sf.b (fun x1_16 e_x1_16 => ?_)
    have d_x1_16 := congrArg Int32.toInt e_x1_16
    exact (hih2 _ _ h_M4 ⟨by omega, by omega⟩ (by omega))
theorem sX3_forgetSteps_l2_n {f : Bx}    : ∀ (n : Nat) (x1 : Int32) (M : Mem) (h_M : OKb f M) (hx1 : (0 : Int) ≤ (x1).toInt ∧ (x1).toInt ≤ 256)    (hmu : 256 - (x1).toInt < n), Sf (mX3_forgetSteps_l2 110 n x1 M) (pM f) := by
  intro n
  induction n with
  | zero => intro x1 M h_M hx1 hmu; exfalso; omega
  | succ n IH => intro x1 M h_M hx1 hmu; exact sX3_forgetSteps_b2  h_M hx1    IH (by omega)
theorem sX3_forgetSteps_l2 {f : Bx}  {x1 : Int32} {M : Mem}  (h_M : OKb f M) (hx1 : (0 : Int) ≤ (x1).toInt ∧ (x1).toInt ≤ 256)    (hmu : 256 - (x1).toInt < 5000) : Sf (mX3_forgetSteps_l2 110 5000 x1 M) (pM f) :=
  sX3_forgetSteps_l2_n   5000 _ M h_M hx1    hmu
set_option maxHeartbeats 2000000 in
theorem sX3_forgetSteps {f : Bx} {M : Mem} (h_M : OKb f M) : Sf (mX3_forgetSteps 110 M) (pM f) := by
  unfold mX3_forgetSteps
  have n_1 : ((0 : Int32)).toInt = 0 := rfl
  exact (sX3_forgetSteps_l2 h_M ⟨by omega, by omega⟩ (by omega))
set_option maxHeartbeats 2000000 in
theorem sX3_findSteps_b63 {f : Bx} {k1 : Nat} {ih5 : Int32 → Int32 → Int32 → Mem → Option (Mem × Int32)} {x2 : Int32} {x3 : Int32} {x4 : Int32} {M : Mem} {d5 : Nat} (hk1 : isP k1) (h_M : OKb f M) (hx2 : (0 : Int) ≤ (x2).toInt ∧ (x2).toInt ≤ 255) (hx3 : (0 : Int) ≤ (x3).toInt ∧ (x3).toInt ≤ 2147483647) (hx4 : (0 : Int) ≤ (x4).toInt ∧ (x4).toInt ≤ 15) (hih5 : ∀ (yx2 : Int32) (yx3 : Int32) (yx4 : Int32) (M : Mem), OKb f M → ((0 : Int) ≤ (yx2).toInt ∧ (yx2).toInt ≤ 255) → ((0 : Int) ≤ (yx3).toInt ∧ (yx3).toInt ≤ 2147483647) → ((0 : Int) ≤ (yx4).toInt ∧ (yx4).toInt ≤ 16) → 16 - (yx4).toInt < d5 → Sf (ih5 yx2 yx3 yx4 M) (pMI f (0) (2147483647))) (hmu5 : 16 - (x4).toInt ≤ d5) : Sf (mX3_findSteps_b63 110 k1 ih5 x2 x3 x4 M) (pMI f (0) (2147483647)) := by
  unfold mX3_findSteps_b63
  have n_1 : ((1 : Int32)).toInt = 1 := rfl
  try have a_2 : ((x4 + (1 : Int32))).toInt = (x4).toInt + ((1 : Int32)).toInt := i_add (by omega) (by omega)
  refine Sf.b (fun x4_63 e_x4_63 => ?_)
  have d_x4_63 := congrArg Int32.toInt e_x4_63
  have g_3 := i_rng x3
  exact (hih5 _ _ _ _ h_M ⟨by omega, by omega⟩ ⟨by omega, by omega⟩ ⟨by omega, by omega⟩ (by omega))
set_option maxHeartbeats 2000000 in
theorem sX3_findSteps_b5 {f : Bx} {k1 : Nat} {ih5 : Int32 → Int32 → Int32 → Mem → Option (Mem × Int32)} {x2 : Int32} {x3 : Int32} {x4 : Int32} {M : Mem} {d5 : Nat} (hk1 : isP k1) (h_M : OKb f M) (hx2 : (0 : Int) ≤ (x2).toInt ∧ (x2).toInt ≤ 255) (hx3 : (0 : Int) ≤ (x3).toInt ∧ (x3).toInt ≤ 2147483647) (hx4 : (0 : Int) ≤ (x4).toInt ∧ (x4).toInt ≤ 16) (hih5 : ∀ (yx2 : Int32) (yx3 : Int32) (yx4 : Int32) (M : Mem), OKb f M → ((0 : Int) ≤ (yx2).toInt ∧ (yx2).toInt ≤ 255) → ((0 : Int) ≤ (yx3).toInt ∧ (yx3).toInt ≤ 2147483647) → ((0 : Int) ≤ (yx4).toInt ∧ (yx4).toInt ≤ 16) → 16 - (yx4).toInt < d5 → Sf (ih5 yx2 yx3 yx4 M) (pMI f (0) (2147483647))) (hmu5 : 16 - (x4).toInt ≤ d5) : Sf (mX3_findSteps_b5 110 k1 ih5 x2 x3 x4 M) (pMI f (0) (2147483647)) := by
  unfold mX3_findSteps_b5
  refine Sf.c (sX1_bendCount hk1 h_M) (fun r2 p_1 => ?_)
  obtain ⟨p_1a, p_1b⟩ := p_1
  have n_2 : ((2 : Int32)).toInt = 2 := rfl
  try have a_3 : (((2 : Int32) * r2)).toInt = 2 * (r2).toInt := i_mulc (by omega) (by omega) (by omega)
  refine Sf.i (fun c_4 => ?_) (fun c_4 => ?_)
  · have c_4 := i_le.mp c_4
    have z_5 : (0 : Int) ≤ (x3).toInt ∧ (x3).toInt ≤ 2147483647 := ⟨by omega, by omega⟩
    exact Sf.ok ⟨h_M, z_5⟩
  · have c_4 := i_nle c_4
    have n_6 : ((16 : Int32)).toInt = 16 := rfl
    refine Sf.i (fun c_7 => ?_) (fun c_7 => ?_)
    · have c_7 := i_le.mp c_7
      exfalso; omega
    · have c_7 := i_nle c_7
      refine Sf.m (sX2_reasonFor isL_112 hk1 h_M ⟨by omega, by omega⟩ ⟨by omega, by omega⟩) (fun M8 r7 p_8 => ?_)
      have h_M8 : OKb f M8 := p_8.1
      have p_8 : (0 : Int) ≤ (r7).toInt ∧ _ ≤ (6 : Int) := p_8.2
      have n_9 : ((0 : Int32)).toInt = 0 := rfl
      refine Sf.i (fun c_10 => ?_) (fun c_10 => ?_)
      · have c_10 := i_eq.mp c_10
        try have a_11 : 0 < (((1 : Int32) <<< (x4 &&& 31))).toInt ∧ (((1 : Int32) <<< (x4 &&& 31))).toInt ≤ 32768 := i_shl 15 (by decide) ⟨by omega, by omega⟩
        try have a_12 : 0 ≤ ((x3 ||| ((1 : Int32) <<< (x4 &&& 31)))).toInt ∧ ((x3 ||| ((1 : Int32) <<< (x4 &&& 31)))).toInt < 2147483648 := i_or 31 (by decide) ⟨by omega, by omega⟩ ⟨by omega, by omega⟩
        refine Sf.b (fun x3_43 e_x3_43 => ?_)
        have d_x3_43 := congrArg Int32.toInt e_x3_43
        refine Sf.c (sX2_reachToBack isL_112 h_M8) (fun r13 p_13 => ?_)
        obtain ⟨p_13a, p_13b⟩ := p_13
        try have a_14 : ((x2 * (16 : Int32))).toInt = (x2).toInt * 16 := i_mulr (by omega) (by omega) (by omega)
        try have a_15 : (((x2 * (16 : Int32)) + x4)).toInt = ((x2 * (16 : Int32))).toInt + (x4).toInt := i_add (by omega) (by omega)
        refine Sf.k (ok_in (by omega) (by omega)) ?_
        have g_16 := i_rng r13
        have z_17 : (0 : Int) ≤ (r13).toInt ∧ (r13).toInt ≤ 2147483647 := ⟨by omega, by omega⟩
        refine Sf.b (fun M17 e_M17 => ?_)
        have h_M17 : OKb f M17 := by rw [e_M17]; exact h_M8.put rfl z_17
        have g_18 := i_rng x3_43
        exact (sX3_findSteps_b63 hk1 h_M17 ⟨by omega, by omega⟩ ⟨by omega, by omega⟩ ⟨by omega, by omega⟩ hih5 (by omega))
      · have c_10 := i_ne c_10
        have g_19 := i_rng x3
        exact (sX3_findSteps_b63 hk1 h_M8 ⟨by omega, by omega⟩ ⟨by omega, by omega⟩ ⟨by omega, by omega⟩ hih5 (by omega))
theorem sX3_findSteps_l5_n {f : Bx} {k1 : Nat} (hk1 : isP k1)   : ∀ (n : Nat) (x2 : Int32) (x3 : Int32) (x4 : Int32) (M : Mem) (h_M : OKb f M) (hx2 : (0 : Int) ≤ (x2).toInt ∧ (x2).toInt ≤ 255) (hx3 : (0 : Int) ≤ (x3).toInt ∧ (x3).toInt ≤ 2147483647) (hx4 : (0 : Int) ≤ (x4).toInt ∧ (x4).toInt ≤ 16)    (hmu : 16 - (x4).toInt < n), Sf (mX3_findSteps_l5 110 k1 n x2 x3 x4 M) (pMI f (0) (2147483647)) := by
  intro n
  induction n with
  | zero => intro x2 x3 x4 M h_M hx2 hx3 hx4 hmu; exfalso; omega
  | succ n IH => intro x2 x3 x4 M h_M hx2 hx3 hx4 hmu; exact sX3_findSteps_b5 hk1 h_M hx2 hx3 hx4    IH (by omega)
theorem sX3_findSteps_l5 {f : Bx} {k1 : Nat} (hk1 : isP k1) {x2 : Int32} {x3 : Int32} {x4 : Int32} {M : Mem}  (h_M : OKb f M) (hx2 : (0 : Int) ≤ (x2).toInt ∧ (x2).toInt ≤ 255) (hx3 : (0 : Int) ≤ (x3).toInt ∧ (x3).toInt ≤ 2147483647) (hx4 : (0 : Int) ≤ (x4).toInt ∧ (x4).toInt ≤ 16)    (hmu : 16 - (x4).toInt < 5000) : Sf (mX3_findSteps_l5 110 k1 5000 x2 x3 x4 M) (pMI f (0) (2147483647)) :=
  sX3_findSteps_l5_n hk1  5000 _ _ _ M h_M hx2 hx3 hx4    hmu
set_option maxHeartbeats 2000000 in
theorem sX3_findSteps {f : Bx} {k1 : Nat} {x2 : Int32} {M : Mem} (hk1 : isP k1) (h_M : OKb f M) (hx2 : (0 : Int) ≤ (x2).toInt ∧ (x2).toInt ≤ 255) : Sf (mX3_findSteps 110 k1 x2 M) (pMI f (0) (2147483647)) := by
  unfold mX3_findSteps
  have n_1 : ((0 : Int32)).toInt = 0 := rfl
  have g_2 := i_rng (0 : Int32)
  exact (sX3_findSteps_l5 hk1 h_M ⟨by omega, by omega⟩ ⟨by omega, by omega⟩ ⟨by omega, by omega⟩ (by omega))
set_option maxHeartbeats 2000000 in
theorem sX3_isOpen {f : Bx} {x1 : Int32} {x2 : Int32} {M : Mem} (h_M : OKb f M) (hx1 : (0 : Int) ≤ (x1).toInt ∧ (x1).toInt ≤ 255) (hx2 : (0 : Int) ≤ (x2).toInt ∧ (x2).toInt ≤ 15) : Sf (mX3_isOpen 110 x1 x2 M) (pI (0) (1)) := by
  unfold mX3_isOpen
  refine Sf.k (ok_in (by omega) (by omega)) ?_
  have b_1 : (-1 : Int) ≤ (rd M (110 + 17) ((x1).toNatClampNeg)).toInt ∧ (rd M (110 + 17) ((x1).toNatClampNeg)).toInt ≤ 2147483647 := h_M.at rfl
  have n_2 : ((1 : Int32)).toInt = 1 := rfl
  try have a_3 := i_andr (a := ((rd M (110 + 17) ((x1).toNatClampNeg)) >>> (x2 &&& 31))) (b := (1 : Int32)) (by omega)
  have n_4 : ((0 : Int32)).toInt = 0 := rfl
  refine Sf.i (fun c_5 => ?_) (fun c_5 => ?_)
  · have c_5 := i_eq.mp c_5
    have n_6 : ((0 : Int32)).toInt = 0 := rfl
    have z_7 : (0 : Int) ≤ ((0 : Int32)).toInt ∧ ((0 : Int32)).toInt ≤ 1 := ⟨by omega, by omega⟩
    exact Sf.ok z_7
  · have c_5 := i_ne c_5
    have z_8 : (0 : Int) ≤ ((1 : Int32)).toInt ∧ ((1 : Int32)).toInt ≤ 1 := ⟨by omega, by omega⟩
    exact Sf.ok z_8
set_option maxHeartbeats 2000000 in
theorem sX3_setBehind {f : Bx} {x0 : Int32} {x1 : Int32} {M : Mem} (h_M : OKb f M) (hx0 : (0 : Int) ≤ (x0).toInt ∧ (x0).toInt ≤ 255) (hx1 : (0 : Int) ≤ (x1).toInt ∧ (x1).toInt ≤ 15) : Sf (mX3_setBehind x0 x1 M) (pI (0) (255)) := by
  unfold mX3_setBehind
  try have a_1 := i_shr1 (a := x1)
  try have a_2 : 0 < (((1 : Int32) <<< ((x1 >>> ((1 : Int32) &&& 31)) &&& 31))).toInt ∧ (((1 : Int32) <<< ((x1 >>> ((1 : Int32) &&& 31)) &&& 31))).toInt ≤ 128 := i_shl 7 (by decide) ⟨by omega, by omega⟩
  try have a_3 : 0 ≤ ((x0 ||| ((1 : Int32) <<< ((x1 >>> ((1 : Int32) &&& 31)) &&& 31)))).toInt ∧ ((x0 ||| ((1 : Int32) <<< ((x1 >>> ((1 : Int32) &&& 31)) &&& 31)))).toInt < 256 := i_or 8 (by decide) ⟨by omega, by omega⟩ ⟨by omega, by omega⟩
  have z_4 : (0 : Int) ≤ ((x0 ||| ((1 : Int32) <<< ((x1 >>> ((1 : Int32) &&& 31)) &&& 31)))).toInt ∧ ((x0 ||| ((1 : Int32) <<< ((x1 >>> ((1 : Int32) &&& 31)) &&& 31)))).toInt ≤ 255 := ⟨by omega, by omega⟩
  exact Sf.ok z_4
set_option maxHeartbeats 2000000 in
theorem sX3_reachSets_b142 {f : Bx} {k1 : Nat} {ih67 : Int32 → Mem → Option (Mem × Unit)} {ih107 : Int32 → Int32 → Mem → Option (Mem × Unit)} {x2 : Int32} {x3 : Int32} {M : Mem} {d67 : Nat} {d107 : Nat} (hk1 : isP k1) (h_M : OKb f M) (hx2 : (0 : Int) ≤ (x2).toInt ∧ (x2).toInt ≤ 255) (hx3 : (0 : Int) ≤ (x3).toInt ∧ (x3).toInt ≤ 15) (hih67 : ∀ (yx2 : Int32) (M : Mem), OKb f M → ((0 : Int) ≤ (yx2).toInt ∧ (yx2).toInt ≤ 256) → 256 - (yx2).toInt < d67 → Sf (ih67 yx2 M) (pM f)) (hmu67 : 256 - (x2).toInt ≤ d67) (hih107 : ∀ (yx2 : Int32) (yx3 : Int32) (M : Mem), OKb f M → ((0 : Int) ≤ (yx2).toInt ∧ (yx2).toInt ≤ 255) → ((0 : Int) ≤ (yx3).toInt ∧ (yx3).toInt ≤ 16) → (256 - (yx2).toInt ≤ d67) → 16 - (yx3).toInt < d107 → Sf (ih107 yx2 yx3 M) (pM f)) (hmu107 : 16 - (x3).toInt ≤ d107) : Sf (mX3_reachSets_b142 110 k1 ih67 ih107 x2 x3 M) (pM f) := by
  unfold mX3_reachSets_b142
  have n_1 : ((1 : Int32)).toInt = 1 := rfl
  try have a_2 : ((x3 + (1 : Int32))).toInt = (x3).toInt + ((1 : Int32)).toInt := i_add (by omega) (by omega)
  refine Sf.b (fun x3_142 e_x3_142 => ?_)
  have d_x3_142 := congrArg Int32.toInt e_x3_142
  exact (hih107 _ _ _ h_M ⟨by omega, by omega⟩ ⟨by omega, by omega⟩ (by omega) (by omega))
set_option maxHeartbeats 2000000 in
theorem sX3_reachSets_b107 {f : Bx} {k1 : Nat} {ih67 : Int32 → Mem → Option (Mem × Unit)} {ih107 : Int32 → Int32 → Mem → Option (Mem × Unit)} {x2 : Int32} {x3 : Int32} {M : Mem} {d67 : Nat} {d107 : Nat} (hk1 : isP k1) (h_M : OKb f M) (hx2 : (0 : Int) ≤ (x2).toInt ∧ (x2).toInt ≤ 255) (hx3 : (0 : Int) ≤ (x3).toInt ∧ (x3).toInt ≤ 16) (hih67 : ∀ (yx2 : Int32) (M : Mem), OKb f M → ((0 : Int) ≤ (yx2).toInt ∧ (yx2).toInt ≤ 256) → 256 - (yx2).toInt < d67 → Sf (ih67 yx2 M) (pM f)) (hmu67 : 256 - (x2).toInt ≤ d67) (hih107 : ∀ (yx2 : Int32) (yx3 : Int32) (M : Mem), OKb f M → ((0 : Int) ≤ (yx2).toInt ∧ (yx2).toInt ≤ 255) → ((0 : Int) ≤ (yx3).toInt ∧ (yx3).toInt ≤ 16) → (256 - (yx2).toInt ≤ d67) → 16 - (yx3).toInt < d107 → Sf (ih107 yx2 yx3 M) (pM f)) (hmu107 : 16 - (x3).toInt ≤ d107) : Sf (mX3_reachSets_b107 110 k1 ih67 ih107 x2 x3 M) (pM f) := by
  unfold mX3_reachSets_b107
  have n_1 : ((16 : Int32)).toInt = 16 := rfl
  refine Sf.i (fun c_2 => ?_) (fun c_2 => ?_)
  · have c_2 := i_le.mp c_2
    have n_3 : ((1 : Int32)).toInt = 1 := rfl
    try have a_4 : ((x2 + (1 : Int32))).toInt = (x2).toInt + ((1 : Int32)).toInt := i_add (by omega) (by omega)
    refine Sf.b (fun x2_148 e_x2_148 => ?_)
    have d_x2_148 := congrArg Int32.toInt e_x2_148
    exact (hih67 _ _ h_M ⟨by omega, by omega⟩ (by omega))
  · have c_2 := i_nle c_2
    refine Sf.k (ok_in (by omega) (by omega)) ?_
    have b_5 : (0 : Int) ≤ (rd M (110 + 18) ((x2).toNatClampNeg)).toInt ∧ (rd M (110 + 18) ((x2).toNatClampNeg)).toInt ≤ 1 := h_M.at rfl
    have n_6 : ((0 : Int32)).toInt = 0 := rfl
    refine Sf.i (fun c_7 => ?_) (fun c_7 => ?_)
    · have c_7 := i_eq.mp c_7
      exact (sX3_reachSets_b142 hk1 h_M ⟨by omega, by omega⟩ ⟨by omega, by omega⟩ hih67 (by omega) hih107 (by omega))
    · have c_7 := i_ne c_7
      refine Sf.c (sX3_isOpen h_M ⟨by omega, by omega⟩ ⟨by omega, by omega⟩) (fun r21 p_8 => ?_)
      obtain ⟨p_8a, p_8b⟩ := p_8
      refine Sf.i (fun c_9 => ?_) (fun c_9 => ?_)
      · have c_9 := i_eq.mp c_9
        exact (sX3_reachSets_b142 hk1 h_M ⟨by omega, by omega⟩ ⟨by omega, by omega⟩ hih67 (by omega) hih107 (by omega))
      · have c_9 := i_ne c_9
        refine Sf.c (sX3_setBehind h_M ⟨by omega, by omega⟩ ⟨by omega, by omega⟩) (fun r25 p_10 => ?_)
        obtain ⟨p_10a, p_10b⟩ := p_10
        refine Sf.k (ok_in (by omega) (by omega)) ?_
        have v_11 := nar_boolean (x := (1 : Int32))
        have z_12 : (0 : Int) ≤ ((vp_nar .boolean (1 : Int32))).toInt ∧ ((vp_nar .boolean (1 : Int32))).toInt ≤ 1 := ⟨by omega, by omega⟩
        refine Sf.b (fun M29 e_M29 => ?_)
        have h_M29 : OKb f M29 := by rw [e_M29]; exact h_M.put rfl z_12
        exact (sX3_reachSets_b142 hk1 h_M29 ⟨by omega, by omega⟩ ⟨by omega, by omega⟩ hih67 (by omega) hih107 (by omega))
theorem sX3_reachSets_l107_n {f : Bx} {k1 : Nat} (hk1 : isP k1) {ih67 : Int32 → Mem → Option (Mem × Unit)} {d67 : Nat} (hih67 : ∀ (yx2 : Int32) (M : Mem), OKb f M → ((0 : Int) ≤ (yx2).toInt ∧ (yx2).toInt ≤ 256) → 256 - (yx2).toInt < d67 → Sf (ih67 yx2 M) (pM f)) : ∀ (n : Nat) (x2 : Int32) (x3 : Int32) (M : Mem) (h_M : OKb f M) (hx2 : (0 : Int) ≤ (x2).toInt ∧ (x2).toInt ≤ 255) (hx3 : (0 : Int) ≤ (x3).toInt ∧ (x3).toInt ≤ 16)   (hmu67 : 256 - (x2).toInt ≤ d67) (hmu : 16 - (x3).toInt < n), Sf (mX3_reachSets_l107 110 k1 ih67 n x2 x3 M) (pM f) := by
  intro n
  induction n with
  | zero => intro x2 x3 M h_M hx2 hx3 hmu67 hmu; exfalso; omega
  | succ n IH => intro x2 x3 M h_M hx2 hx3 hmu67 hmu; exact sX3_reachSets_b107 hk1 h_M hx2 hx3   hih67 hmu67 IH (by omega)
theorem sX3_reachSets_l107 {f : Bx} {k1 : Nat} (hk1 : isP k1) {x2 : Int32} {x3 : Int32} {M : Mem} {ih67 : Int32 → Mem → Option (Mem × Unit)} {d67 : Nat} (h_M : OKb f M) (hx2 : (0 : Int) ≤ (x2).toInt ∧ (x2).toInt ≤ 255) (hx3 : (0 : Int) ≤ (x3).toInt ∧ (x3).toInt ≤ 16)   (hih67 : ∀ (yx2 : Int32) (M : Mem), OKb f M → ((0 : Int) ≤ (yx2).toInt ∧ (yx2).toInt ≤ 256) → 256 - (yx2).toInt < d67 → Sf (ih67 yx2 M) (pM f)) (hmu67 : 256 - (x2).toInt ≤ d67) (hmu : 16 - (x3).toInt < 5000) : Sf (mX3_reachSets_l107 110 k1 ih67 5000 x2 x3 M) (pM f) :=
  sX3_reachSets_l107_n hk1 hih67 5000 _ _ M h_M hx2 hx3   hmu67 hmu
set_option maxHeartbeats 2000000 in
theorem sX3_reachSets_b105 {f : Bx} {k1 : Nat} {ih67 : Int32 → Mem → Option (Mem × Unit)} {x2 : Int32} {M : Mem} {d67 : Nat} (hk1 : isP k1) (h_M : OKb f M) (hx2 : (0 : Int) ≤ (x2).toInt ∧ (x2).toInt ≤ 255) (hih67 : ∀ (yx2 : Int32) (M : Mem), OKb f M → ((0 : Int) ≤ (yx2).toInt ∧ (yx2).toInt ≤ 256) → 256 - (yx2).toInt < d67 → Sf (ih67 yx2 M) (pM f)) (hmu67 : 256 - (x2).toInt ≤ d67) : Sf (mX3_reachSets_b105 110 k1 ih67 x2 M) (pM f) := by
  unfold mX3_reachSets_b105
  have n_1 : ((0 : Int32)).toInt = 0 := rfl
  exact (sX3_reachSets_l107 hk1 h_M ⟨by omega, by omega⟩ ⟨by omega, by omega⟩ hih67 (by omega) (by omega))
set_option maxHeartbeats 2000000 in
theorem sX3_reachSets_b67 {f : Bx} {k1 : Nat} {ih67 : Int32 → Mem → Option (Mem × Unit)} {x2 : Int32} {M : Mem} {d67 : Nat} (hk1 : isP k1) (h_M : OKb f M) (hx2 : (0 : Int) ≤ (x2).toInt ∧ (x2).toInt ≤ 256) (hih67 : ∀ (yx2 : Int32) (M : Mem), OKb f M → ((0 : Int) ≤ (yx2).toInt ∧ (yx2).toInt ≤ 256) → 256 - (yx2).toInt < d67 → Sf (ih67 yx2 M) (pM f)) (hmu67 : 256 - (x2).toInt ≤ d67) : Sf (mX3_reachSets_b67 110 k1 ih67 x2 M) (pM f) := by
  unfold mX3_reachSets_b67
  have n_1 : ((256 : Int32)).toInt = 256 := rfl
  refine Sf.i (fun c_2 => ?_) (fun c_2 => ?_)
  · have c_2 := i_le.mp c_2
    exact Sf.ok h_M
  · have c_2 := i_nle c_2
    refine Sf.k (ok_in (by omega) (by omega)) ?_
    have b_3 : (0 : Int) ≤ (rd M (110 + 18) ((x2).toNatClampNeg)).toInt ∧ (rd M (110 + 18) ((x2).toNatClampNeg)).toInt ≤ 1 := h_M.at rfl
    have n_4 : ((0 : Int32)).toInt = 0 := rfl
    refine Sf.i (fun c_5 => ?_) (fun c_5 => ?_)
    · have c_5 := i_eq.mp c_5
      exact (sX3_reachSets_b105 hk1 h_M ⟨by omega, by omega⟩ hih67 (by omega))
    · have c_5 := i_ne c_5
      refine Sf.k (ok_in (by omega) (by omega)) ?_
      have b_6 : (-1 : Int) ≤ (rd M (110 + 17) ((x2).toNatClampNeg)).toInt ∧ (rd M (110 + 17) ((x2).toNatClampNeg)).toInt ≤ 2147483647 := h_M.at rfl
      have n_7 : (((-1) : Int32)).toInt = -1 := rfl
      refine Sf.i (fun c_8 => ?_) (fun c_8 => ?_)
      · have c_8 := i_eq.mp c_8
        refine Sf.m (sX3_findSteps hk1 h_M ⟨by omega, by omega⟩) (fun M34 r33 p_9 => ?_)
        have h_M34 : OKb f M34 := p_9.1
        have p_9 : (0 : Int) ≤ (r33).toInt ∧ _ ≤ (2147483647 : Int) := p_9.2
        refine Sf.k (ok_in (by omega) (by omega)) ?_
        have g_10 := i_rng r33
        have z_11 : (-1 : Int) ≤ (r33).toInt ∧ (r33).toInt ≤ 2147483647 := ⟨by omega, by omega⟩
        refine Sf.b (fun M37 e_M37 => ?_)
        have h_M37 : OKb f M37 := by rw [e_M37]; exact h_M34.put rfl z_11
        exact (sX3_reachSets_b105 hk1 h_M37 ⟨by omega, by omega⟩ hih67 (by omega))
      · have c_8 := i_ne c_8
        exact (sX3_reachSets_b105 hk1 h_M ⟨by omega, by omega⟩ hih67 (by omega))
theorem sX3_reachSets_l67_n {f : Bx} {k1 : Nat} (hk1 : isP k1)   : ∀ (n : Nat) (x2 : Int32) (M : Mem) (h_M : OKb f M) (hx2 : (0 : Int) ≤ (x2).toInt ∧ (x2).toInt ≤ 256)    (hmu : 256 - (x2).toInt < n), Sf (mX3_reachSets_l67 110 k1 n x2 M) (pM f) := by
  intro n
  induction n with
  | zero => intro x2 M h_M hx2 hmu; exfalso; omega
  | succ n IH => intro x2 M h_M hx2 hmu; exact sX3_reachSets_b67 hk1 h_M hx2    IH (by omega)
theorem sX3_reachSets_l67 {f : Bx} {k1 : Nat} (hk1 : isP k1) {x2 : Int32} {M : Mem}  (h_M : OKb f M) (hx2 : (0 : Int) ≤ (x2).toInt ∧ (x2).toInt ≤ 256)    (hmu : 256 - (x2).toInt < 5000) : Sf (mX3_reachSets_l67 110 k1 5000 x2 M) (pM f) :=
  sX3_reachSets_l67_n hk1  5000 _ M h_M hx2    hmu
set_option maxHeartbeats 2000000 in
theorem sX3_reachSets_b55 {f : Bx} {k1 : Nat} {ih30 : Int32 → Mem → Option (Mem × Unit)} {x2 : Int32} {y1 : Int32} {y2 : Int32} {M : Mem} {d30 : Nat} (hk1 : isP k1) (h_M : OKb f M) (hx2 : (0 : Int) ≤ (x2).toInt ∧ (x2).toInt ≤ 255) (hy1 : (0 : Int) ≤ (y1).toInt ∧ (y1).toInt ≤ 255) (hy2 : (0 : Int) ≤ (y2).toInt ∧ (y2).toInt ≤ 1) (hih30 : ∀ (yx2 : Int32) (M : Mem), OKb f M → ((0 : Int) ≤ (yx2).toInt ∧ (yx2).toInt ≤ 256) → 256 - (yx2).toInt < d30 → Sf (ih30 yx2 M) (pM f)) (hmu30 : 256 - (x2).toInt ≤ d30) : Sf (mX3_reachSets_b55 110 k1 ih30 x2 y1 y2 M) (pM f) := by
  unfold mX3_reachSets_b55
  refine Sf.k (ok_in (by omega) (by omega)) ?_
  have v_1 := nar_boolean (x := y2)
  have z_2 : (0 : Int) ≤ ((vp_nar .boolean y2)).toInt ∧ ((vp_nar .boolean y2)).toInt ≤ 1 := ⟨by omega, by omega⟩
  refine Sf.b (fun M41 e_M41 => ?_)
  have h_M41 : OKb f M41 := by rw [e_M41]; exact h_M.put rfl z_2
  have n_3 : ((1 : Int32)).toInt = 1 := rfl
  try have a_4 : ((x2 + (1 : Int32))).toInt = (x2).toInt + ((1 : Int32)).toInt := i_add (by omega) (by omega)
  refine Sf.b (fun x2_56 e_x2_56 => ?_)
  have d_x2_56 := congrArg Int32.toInt e_x2_56
  exact (hih30 _ _ h_M41 ⟨by omega, by omega⟩ (by omega))
set_option maxHeartbeats 2000000 in
theorem sX3_reachSets_b30 {f : Bx} {k1 : Nat} {ih30 : Int32 → Mem → Option (Mem × Unit)} {x2 : Int32} {M : Mem} {d30 : Nat} (hk1 : isP k1) (h_M : OKb f M) (hx2 : (0 : Int) ≤ (x2).toInt ∧ (x2).toInt ≤ 256) (hih30 : ∀ (yx2 : Int32) (M : Mem), OKb f M → ((0 : Int) ≤ (yx2).toInt ∧ (yx2).toInt ≤ 256) → 256 - (yx2).toInt < d30 → Sf (ih30 yx2 M) (pM f)) (hmu30 : 256 - (x2).toInt ≤ d30) : Sf (mX3_reachSets_b30 110 k1 ih30 x2 M) (pM f) := by
  unfold mX3_reachSets_b30
  have n_1 : ((256 : Int32)).toInt = 256 := rfl
  refine Sf.i (fun c_2 => ?_) (fun c_2 => ?_)
  · have c_2 := i_le.mp c_2
    have b_3 : (0 : Int) ≤ (rd M k1 13).toInt ∧ (rd M k1 13).toInt ≤ 255 := h_M.at (bx_P0 hk1)
    refine Sf.b (fun x2_66 e_x2_66 => ?_)
    have d_x2_66 := congrArg Int32.toInt e_x2_66
    exact (sX3_reachSets_l67 hk1 h_M ⟨by omega, by omega⟩ (by omega))
  · have c_2 := i_nle c_2
    have b_4 : (0 : Int) ≤ (rd M k1 13).toInt ∧ (rd M k1 13).toInt ≤ 255 := h_M.at (bx_P0 hk1)
    refine Sf.i (fun c_5 => ?_) (fun c_5 => ?_)
    · have c_5 := i_eq.mp c_5
      have n_6 : ((1 : Int32)).toInt = 1 := rfl
      exact (sX3_reachSets_b55 hk1 h_M ⟨by omega, by omega⟩ ⟨by omega, by omega⟩ ⟨by omega, by omega⟩ hih30 (by omega))
    · have c_5 := i_ne c_5
      have n_7 : ((0 : Int32)).toInt = 0 := rfl
      exact (sX3_reachSets_b55 hk1 h_M ⟨by omega, by omega⟩ ⟨by omega, by omega⟩ ⟨by omega, by omega⟩ hih30 (by omega))
theorem sX3_reachSets_l30_n {f : Bx} {k1 : Nat} (hk1 : isP k1)   : ∀ (n : Nat) (x2 : Int32) (M : Mem) (h_M : OKb f M) (hx2 : (0 : Int) ≤ (x2).toInt ∧ (x2).toInt ≤ 256)    (hmu : 256 - (x2).toInt < n), Sf (mX3_reachSets_l30 110 k1 n x2 M) (pM f) := by
  intro n
  induction n with
  | zero => intro x2 M h_M hx2 hmu; exfalso; omega
  | succ n IH => intro x2 M h_M hx2 hmu; exact sX3_reachSets_b30 hk1 h_M hx2    IH (by omega)
theorem sX3_reachSets_l30 {f : Bx} {k1 : Nat} (hk1 : isP k1) {x2 : Int32} {M : Mem}  (h_M : OKb f M) (hx2 : (0 : Int) ≤ (x2).toInt ∧ (x2).toInt ≤ 256)    (hmu : 256 - (x2).toInt < 5000) : Sf (mX3_reachSets_l30 110 k1 5000 x2 M) (pM f) :=
  sX3_reachSets_l30_n hk1  5000 _ M h_M hx2    hmu
set_option maxHeartbeats 2000000 in
theorem sX3_reachSets_b15 {f : Bx} {k1 : Nat} {M : Mem} (hk1 : isP k1) (h_M : OKb f M) : Sf (mX3_reachSets_b15 110 k1 M) (pM f) := by
  unfold mX3_reachSets_b15
  refine Sf.m (sX1_copyFrom isP_119 hk1 h_M) (fun M7 _ p_1 => ?_)
  have h_M7 : OKb f M7 := p_1.1
  have gq_M7 : ∀ j, rd M7 21 j = rd M 21 j := p_1.2
  have n_2 : ((0 : Int32)).toInt = 0 := rfl
  have z_3 : (0 : Int) ≤ ((0 : Int32)).toInt ∧ ((0 : Int32)).toInt ≤ 1 := ⟨by omega, by omega⟩
  refine Sf.b (fun M8 e_M8 => ?_)
  have h_M8 : OKb f M8 := by rw [e_M8]; exact h_M7.put rfl z_3
  exact (sX3_reachSets_l30 hk1 h_M8 ⟨by omega, by omega⟩ (by omega))
set_option maxHeartbeats 2000000 in
theorem sX3_reachSets {f : Bx} {k1 : Nat} {M : Mem} (hk1 : isP k1) (h_M : OKb f M) : Sf (mX3_reachSets 110 k1 M) (pM f) := by
  unfold mX3_reachSets
  refine Sf.c (sX1_bendsLike hk1 isP_119 h_M) (fun r2 p_1 => ?_)
  obtain ⟨p_1a, p_1b⟩ := p_1
  have n_2 : ((0 : Int32)).toInt = 0 := rfl
  refine Sf.i (fun c_3 => ?_) (fun c_3 => ?_)
  · have c_3 := i_eq.mp c_3
    refine Sf.m (sX3_forgetSteps h_M) (fun M45 _ h_M45 => ?_)
    have h_M45 : OKb f M45 := h_M45
    exact (sX3_reachSets_b15 hk1 h_M45)
  · have c_3 := i_ne c_3
    exact (sX3_reachSets_b15 hk1 h_M)
set_option maxHeartbeats 2000000 in
theorem sX3_countOrders_b78 {f : Bx} {k1 : Nat} {ih9 : Int32 → Int32 → Mem → Option (Mem × Unit)} {ih32 : Int32 → Int32 → Int32 → Mem → Option (Mem × Unit)} {x2 : Int32} {x3 : Int32} {x4 : Int32} {M : Mem} {d9 : Nat} {d32 : Nat} (hk1 : isP k1) (h_M : OKb f M) (hx2 : (0 : Int) ≤ (x2).toInt ∧ (x2).toInt ≤ 255) (hx3 : (0 : Int) ≤ (x3).toInt ∧ (x3).toInt ≤ 255) (hx4 : (0 : Int) ≤ (x4).toInt ∧ (x4).toInt ≤ 15) (hih9 : ∀ (yx2 : Int32) (yx3 : Int32) (M : Mem), OKb f M → ((0 : Int) ≤ (yx2).toInt ∧ (yx2).toInt ≤ 255) → ((-1 : Int) ≤ (yx3).toInt ∧ (yx3).toInt ≤ 255) → (yx3).toInt - (-1) < d9 → Sf (ih9 yx2 yx3 M) (pM f)) (hmu9 : (x3).toInt - (-1) ≤ d9) (hih32 : ∀ (yx2 : Int32) (yx3 : Int32) (yx4 : Int32) (M : Mem), OKb f M → ((0 : Int) ≤ (yx2).toInt ∧ (yx2).toInt ≤ 255) → ((0 : Int) ≤ (yx3).toInt ∧ (yx3).toInt ≤ 255) → ((0 : Int) ≤ (yx4).toInt ∧ (yx4).toInt ≤ 16) → ((yx3).toInt - (-1) ≤ d9) → 16 - (yx4).toInt < d32 → Sf (ih32 yx2 yx3 yx4 M) (pM f)) (hmu32 : 16 - (x4).toInt ≤ d32) : Sf (mX3_countOrders_b78 110 k1 ih9 ih32 x2 x3 x4 M) (pM f) := by
  unfold mX3_countOrders_b78
  have n_1 : ((1 : Int32)).toInt = 1 := rfl
  try have a_2 : ((x4 + (1 : Int32))).toInt = (x4).toInt + ((1 : Int32)).toInt := i_add (by omega) (by omega)
  refine Sf.b (fun x4_78 e_x4_78 => ?_)
  have d_x4_78 := congrArg Int32.toInt e_x4_78
  exact (hih32 _ _ _ _ h_M ⟨by omega, by omega⟩ ⟨by omega, by omega⟩ ⟨by omega, by omega⟩ (by omega) (by omega))
set_option maxHeartbeats 2000000 in
theorem sX3_countOrders_b32 {f : Bx} {k1 : Nat} {ih9 : Int32 → Int32 → Mem → Option (Mem × Unit)} {ih32 : Int32 → Int32 → Int32 → Mem → Option (Mem × Unit)} {x2 : Int32} {x3 : Int32} {x4 : Int32} {M : Mem} {d9 : Nat} {d32 : Nat} (hk1 : isP k1) (h_M : OKb f M) (hx2 : (0 : Int) ≤ (x2).toInt ∧ (x2).toInt ≤ 255) (hx3 : (0 : Int) ≤ (x3).toInt ∧ (x3).toInt ≤ 255) (hx4 : (0 : Int) ≤ (x4).toInt ∧ (x4).toInt ≤ 16) (hih9 : ∀ (yx2 : Int32) (yx3 : Int32) (M : Mem), OKb f M → ((0 : Int) ≤ (yx2).toInt ∧ (yx2).toInt ≤ 255) → ((-1 : Int) ≤ (yx3).toInt ∧ (yx3).toInt ≤ 255) → (yx3).toInt - (-1) < d9 → Sf (ih9 yx2 yx3 M) (pM f)) (hmu9 : (x3).toInt - (-1) ≤ d9) (hih32 : ∀ (yx2 : Int32) (yx3 : Int32) (yx4 : Int32) (M : Mem), OKb f M → ((0 : Int) ≤ (yx2).toInt ∧ (yx2).toInt ≤ 255) → ((0 : Int) ≤ (yx3).toInt ∧ (yx3).toInt ≤ 255) → ((0 : Int) ≤ (yx4).toInt ∧ (yx4).toInt ≤ 16) → ((yx3).toInt - (-1) ≤ d9) → 16 - (yx4).toInt < d32 → Sf (ih32 yx2 yx3 yx4 M) (pM f)) (hmu32 : 16 - (x4).toInt ≤ d32) : Sf (mX3_countOrders_b32 110 k1 ih9 ih32 x2 x3 x4 M) (pM f) := by
  unfold mX3_countOrders_b32
  have n_1 : ((16 : Int32)).toInt = 16 := rfl
  refine Sf.i (fun c_2 => ?_) (fun c_2 => ?_)
  · have c_2 := i_le.mp c_2
    have n_3 : (((-1) : Int32)).toInt = -1 := rfl
    try have a_4 : ((x3 + ((-1) : Int32))).toInt = (x3).toInt + (((-1) : Int32)).toInt := i_add (by omega) (by omega)
    refine Sf.b (fun x3_84 e_x3_84 => ?_)
    have d_x3_84 := congrArg Int32.toInt e_x3_84
    exact (hih9 _ _ _ h_M ⟨by omega, by omega⟩ ⟨by omega, by omega⟩ (by omega))
  · have c_2 := i_nle c_2
    refine Sf.k (ok_in (by omega) (by omega)) ?_
    have b_5 : (0 : Int) ≤ (rd M (110 + 18) ((x3).toNatClampNeg)).toInt ∧ (rd M (110 + 18) ((x3).toNatClampNeg)).toInt ≤ 1 := h_M.at rfl
    have n_6 : ((0 : Int32)).toInt = 0 := rfl
    refine Sf.i (fun c_7 => ?_) (fun c_7 => ?_)
    · have c_7 := i_eq.mp c_7
      exact (sX3_countOrders_b78 hk1 h_M ⟨by omega, by omega⟩ ⟨by omega, by omega⟩ ⟨by omega, by omega⟩ hih9 (by omega) hih32 (by omega))
    · have c_7 := i_ne c_7
      refine Sf.c (sX3_isOpen h_M ⟨by omega, by omega⟩ ⟨by omega, by omega⟩) (fun r15 p_8 => ?_)
      obtain ⟨p_8a, p_8b⟩ := p_8
      refine Sf.i (fun c_9 => ?_) (fun c_9 => ?_)
      · have c_9 := i_eq.mp c_9
        exact (sX3_countOrders_b78 hk1 h_M ⟨by omega, by omega⟩ ⟨by omega, by omega⟩ ⟨by omega, by omega⟩ hih9 (by omega) hih32 (by omega))
      · have c_9 := i_ne c_9
        refine Sf.k (ok_in (by omega) (by omega)) ?_
        refine Sf.c (sX3_setBehind h_M ⟨by omega, by omega⟩ ⟨by omega, by omega⟩) (fun r20 p_10 => ?_)
        obtain ⟨p_10a, p_10b⟩ := p_10
        refine Sf.k (ok_in (by omega) (by omega)) ?_
        refine Sf.k (ok_in (by omega) (by omega)) ?_
        refine Sf.b (fun M25 e_M25 => ?_)
        have h_M25 : OKb f M25 := by rw [e_M25]; exact h_M.pl
        exact (sX3_countOrders_b78 hk1 h_M25 ⟨by omega, by omega⟩ ⟨by omega, by omega⟩ ⟨by omega, by omega⟩ hih9 (by omega) hih32 (by omega))
theorem sX3_countOrders_l32_n {f : Bx} {k1 : Nat} (hk1 : isP k1) {ih9 : Int32 → Int32 → Mem → Option (Mem × Unit)} {d9 : Nat} (hih9 : ∀ (yx2 : Int32) (yx3 : Int32) (M : Mem), OKb f M → ((0 : Int) ≤ (yx2).toInt ∧ (yx2).toInt ≤ 255) → ((-1 : Int) ≤ (yx3).toInt ∧ (yx3).toInt ≤ 255) → (yx3).toInt - (-1) < d9 → Sf (ih9 yx2 yx3 M) (pM f)) : ∀ (n : Nat) (x2 : Int32) (x3 : Int32) (x4 : Int32) (M : Mem) (h_M : OKb f M) (hx2 : (0 : Int) ≤ (x2).toInt ∧ (x2).toInt ≤ 255) (hx3 : (0 : Int) ≤ (x3).toInt ∧ (x3).toInt ≤ 255) (hx4 : (0 : Int) ≤ (x4).toInt ∧ (x4).toInt ≤ 16)   (hmu9 : (x3).toInt - (-1) ≤ d9) (hmu : 16 - (x4).toInt < n), Sf (mX3_countOrders_l32 110 k1 ih9 n x2 x3 x4 M) (pM f) := by
  intro n
  induction n with
  | zero => intro x2 x3 x4 M h_M hx2 hx3 hx4 hmu9 hmu; exfalso; omega
  | succ n IH => intro x2 x3 x4 M h_M hx2 hx3 hx4 hmu9 hmu; exact sX3_countOrders_b32 hk1 h_M hx2 hx3 hx4   hih9 hmu9 IH (by omega)
theorem sX3_countOrders_l32 {f : Bx} {k1 : Nat} (hk1 : isP k1) {x2 : Int32} {x3 : Int32} {x4 : Int32} {M : Mem} {ih9 : Int32 → Int32 → Mem → Option (Mem × Unit)} {d9 : Nat} (h_M : OKb f M) (hx2 : (0 : Int) ≤ (x2).toInt ∧ (x2).toInt ≤ 255) (hx3 : (0 : Int) ≤ (x3).toInt ∧ (x3).toInt ≤ 255) (hx4 : (0 : Int) ≤ (x4).toInt ∧ (x4).toInt ≤ 16)   (hih9 : ∀ (yx2 : Int32) (yx3 : Int32) (M : Mem), OKb f M → ((0 : Int) ≤ (yx2).toInt ∧ (yx2).toInt ≤ 255) → ((-1 : Int) ≤ (yx3).toInt ∧ (yx3).toInt ≤ 255) → (yx3).toInt - (-1) < d9 → Sf (ih9 yx2 yx3 M) (pM f)) (hmu9 : (x3).toInt - (-1) ≤ d9) (hmu : 16 - (x4).toInt < 5000) : Sf (mX3_countOrders_l32 110 k1 ih9 5000 x2 x3 x4 M) (pM f) :=
  sX3_countOrders_l32_n hk1 hih9 5000 _ _ _ M h_M hx2 hx3 hx4   hmu9 hmu
set_option maxHeartbeats 2000000 in
theorem sX3_countOrders_b28 {f : Bx} {k1 : Nat} {ih9 : Int32 → Int32 → Mem → Option (Mem × Unit)} {x2 : Int32} {x3 : Int32} {y1 : Int32} {y2 : Int64} {M : Mem} {d9 : Nat} (hk1 : isP k1) (h_M : OKb f M) (hx2 : (0 : Int) ≤ (x2).toInt ∧ (x2).toInt ≤ 255) (hx3 : (0 : Int) ≤ (x3).toInt ∧ (x3).toInt ≤ 255) (hy1 : (0 : Int) ≤ (y1).toInt ∧ (y1).toInt ≤ 255) (hih9 : ∀ (yx2 : Int32) (yx3 : Int32) (M : Mem), OKb f M → ((0 : Int) ≤ (yx2).toInt ∧ (yx2).toInt ≤ 255) → ((-1 : Int) ≤ (yx3).toInt ∧ (yx3).toInt ≤ 255) → (yx3).toInt - (-1) < d9 → Sf (ih9 yx2 yx3 M) (pM f)) (hmu9 : (x3).toInt - (-1) ≤ d9) : Sf (mX3_countOrders_b28 110 k1 ih9 x2 x3 y1 y2 M) (pM f) := by
  unfold mX3_countOrders_b28
  refine Sf.k (ok_in (by omega) (by omega)) ?_
  refine Sf.b (fun M8 e_M8 => ?_)
  have h_M8 : OKb f M8 := by rw [e_M8]; exact h_M.pl
  have n_1 : ((0 : Int32)).toInt = 0 := rfl
  exact (sX3_countOrders_l32 hk1 h_M8 ⟨by omega, by omega⟩ ⟨by omega, by omega⟩ ⟨by omega, by omega⟩ hih9 (by omega) (by omega))
set_option maxHeartbeats 2000000 in
theorem sX3_countOrders_b9 {f : Bx} {k1 : Nat} {ih9 : Int32 → Int32 → Mem → Option (Mem × Unit)} {x2 : Int32} {x3 : Int32} {M : Mem} {d9 : Nat} (hk1 : isP k1) (h_M : OKb f M) (hx2 : (0 : Int) ≤ (x2).toInt ∧ (x2).toInt ≤ 255) (hx3 : (-1 : Int) ≤ (x3).toInt ∧ (x3).toInt ≤ 255) (hih9 : ∀ (yx2 : Int32) (yx3 : Int32) (M : Mem), OKb f M → ((0 : Int) ≤ (yx2).toInt ∧ (yx2).toInt ≤ 255) → ((-1 : Int) ≤ (yx3).toInt ∧ (yx3).toInt ≤ 255) → (yx3).toInt - (-1) < d9 → Sf (ih9 yx2 yx3 M) (pM f)) (hmu9 : (x3).toInt - (-1) ≤ d9) : Sf (mX3_countOrders_b9 110 k1 ih9 x2 x3 M) (pM f) := by
  unfold mX3_countOrders_b9
  have n_1 : ((0 : Int32)).toInt = 0 := rfl
  refine Sf.i (fun c_2 => ?_) (fun c_2 => ?_)
  · have c_2 := i_lt.mp c_2
    exact Sf.ok h_M
  · have c_2 := i_nlt c_2
    refine Sf.i (fun c_3 => ?_) (fun c_3 => ?_)
    · have c_3 := i_eq.mp c_3
      exact (sX3_countOrders_b28 hk1 h_M ⟨by omega, by omega⟩ ⟨by omega, by omega⟩ ⟨by omega, by omega⟩ hih9 (by omega))
    · have c_3 := i_ne c_3
      exact (sX3_countOrders_b28 hk1 h_M ⟨by omega, by omega⟩ ⟨by omega, by omega⟩ ⟨by omega, by omega⟩ hih9 (by omega))
theorem sX3_countOrders_l9_n {f : Bx} {k1 : Nat} (hk1 : isP k1)   : ∀ (n : Nat) (x2 : Int32) (x3 : Int32) (M : Mem) (h_M : OKb f M) (hx2 : (0 : Int) ≤ (x2).toInt ∧ (x2).toInt ≤ 255) (hx3 : (-1 : Int) ≤ (x3).toInt ∧ (x3).toInt ≤ 255)    (hmu : (x3).toInt - (-1) < n), Sf (mX3_countOrders_l9 110 k1 n x2 x3 M) (pM f) := by
  intro n
  induction n with
  | zero => intro x2 x3 M h_M hx2 hx3 hmu; exfalso; omega
  | succ n IH => intro x2 x3 M h_M hx2 hx3 hmu; exact sX3_countOrders_b9 hk1 h_M hx2 hx3    IH (by omega)
theorem sX3_countOrders_l9 {f : Bx} {k1 : Nat} (hk1 : isP k1) {x2 : Int32} {x3 : Int32} {M : Mem}  (h_M : OKb f M) (hx2 : (0 : Int) ≤ (x2).toInt ∧ (x2).toInt ≤ 255) (hx3 : (-1 : Int) ≤ (x3).toInt ∧ (x3).toInt ≤ 255)    (hmu : (x3).toInt - (-1) < 5000) : Sf (mX3_countOrders_l9 110 k1 5000 x2 x3 M) (pM f) :=
  sX3_countOrders_l9_n hk1  5000 _ _ M h_M hx2 hx3    hmu
set_option maxHeartbeats 2000000 in
theorem sX3_countOrders {f : Bx} {k1 : Nat} {M : Mem} (hk1 : isP k1) (h_M : OKb f M) : Sf (mX3_countOrders 110 k1 M) (pM f) := by
  unfold mX3_countOrders
  refine Sf.c (sX1_allBends hk1 h_M) (fun r2 p_1 => ?_)
  obtain ⟨p_1a, p_1b⟩ := p_1
  have n_2 : ((255 : Int32)).toInt = 255 := rfl
  exact (sX3_countOrders_l9 hk1 h_M ⟨by omega, by omega⟩ ⟨by omega, by omega⟩ (by omega))
set_option maxHeartbeats 2000000 in
theorem sX3_costThrough_b48 {f : Bx} {k1 : Nat} {M : Mem} {x2 : Int32} {x3 : Int32} {x4 : Int32} {x5 : Int32} {y0 : Int32} (hk1 : isP k1) (h_M : OKb f M) (hx2 : (0 : Int) ≤ (x2).toInt ∧ (x2).toInt ≤ 255) (hx3 : (-1 : Int) ≤ (x3).toInt ∧ (x3).toInt ≤ 15) (hx5 : (0 : Int) ≤ (x5).toInt ∧ (x5).toInt ≤ 15) : Sf (mX3_costThrough_b48 110 k1 M x2 x3 x4 x5 y0) (pI (-2147483648) (2147483647)) := by
  unfold mX3_costThrough_b48
  have n_1 : (((-1) : Int32)).toInt = -1 := rfl
  refine Sf.i (fun c_2 => ?_) (fun c_2 => ?_)
  · have c_2 := i_eq.mp c_2
    exact Sf.ok (i_rng _)
  · have c_2 := i_ne c_2
    have n_3 : ((16 : Int32)).toInt = 16 := rfl
    try have a_4 : ((x2 * (16 : Int32))).toInt = (x2).toInt * 16 := i_mulr (by omega) (by omega) (by omega)
    try have a_5 : (((x2 * (16 : Int32)) + x5)).toInt = ((x2 * (16 : Int32))).toInt + (x5).toInt := i_add (by omega) (by omega)
    refine Sf.k (ok_in (by omega) (by omega)) ?_
    have b_6 : (0 : Int) ≤ (rd M (110 + 20) ((((x2 * (16 : Int32)) + x5)).toNatClampNeg)).toInt ∧ (rd M (110 + 20) ((((x2 * (16 : Int32)) + x5)).toNatClampNeg)).toInt ≤ 2147483647 := h_M.at rfl
    have g_7 := i_rng (rd M (110 + 20) ((((x2 * (16 : Int32)) + x5)).toNatClampNeg))
    refine Sf.c (sX1_priceBetween hk1 h_M ⟨by omega, by omega⟩ ⟨by omega, by omega⟩ ⟨by omega, by omega⟩) (fun r14 p_8 => ?_)
    obtain ⟨p_8a, p_8b⟩ := p_8
    exact Sf.ok (i_rng _)
set_option maxHeartbeats 2000000 in
theorem sX3_costThrough {f : Bx} {k1 : Nat} {x2 : Int32} {x3 : Int32} {x4 : Int32} {x5 : Int32} {x6 : Int32} {M : Mem} (hk1 : isP k1) (h_M : OKb f M) (hx2 : (0 : Int) ≤ (x2).toInt ∧ (x2).toInt ≤ 255) (hx3 : (-1 : Int) ≤ (x3).toInt ∧ (x3).toInt ≤ 15) (hx5 : (0 : Int) ≤ (x5).toInt ∧ (x5).toInt ≤ 15) (hx6 : (0 : Int) ≤ (x6).toInt ∧ (x6).toInt ≤ 1) : Sf (mX3_costThrough 110 k1 x2 x3 x4 x5 x6 M) (pI (-2147483648) (2147483647)) := by
  unfold mX3_costThrough
  refine Sf.c (sX3_isOpen h_M ⟨by omega, by omega⟩ ⟨by omega, by omega⟩) (fun r2 p_1 => ?_)
  obtain ⟨p_1a, p_1b⟩ := p_1
  have n_2 : ((0 : Int32)).toInt = 0 := rfl
  refine Sf.i (fun c_3 => ?_) (fun c_3 => ?_)
  · have c_3 := i_eq.mp c_3
    exact Sf.ok (i_rng _)
  · have c_3 := i_ne c_3
    refine Sf.c (sX3_setBehind h_M ⟨by omega, by omega⟩ ⟨by omega, by omega⟩) (fun r6 p_4 => ?_)
    obtain ⟨p_4a, p_4b⟩ := p_4
    have n_5 : ((16 : Int32)).toInt = 16 := rfl
    try have a_6 : ((r6 * (16 : Int32))).toInt = (r6).toInt * 16 := i_mulr (by omega) (by omega) (by omega)
    try have a_7 : (((r6 * (16 : Int32)) + x5)).toInt = ((r6 * (16 : Int32))).toInt + (x5).toInt := i_add (by omega) (by omega)
    refine Sf.b (fun x7_24 e_x7_24 => ?_)
    have d_x7_24 := congrArg Int32.toInt e_x7_24
    refine Sf.i (fun c_8 => ?_) (fun c_8 => ?_)
    · have c_8 := i_eq.mp c_8
      refine Sf.k (ok_in (by omega) (by omega)) ?_
      exact (sX3_costThrough_b48 hk1 h_M ⟨by omega, by omega⟩ ⟨by omega, by omega⟩ ⟨by omega, by omega⟩)
    · have c_8 := i_ne c_8
      refine Sf.k (ok_in (by omega) (by omega)) ?_
      exact (sX3_costThrough_b48 hk1 h_M ⟨by omega, by omega⟩ ⟨by omega, by omega⟩ ⟨by omega, by omega⟩)
set_option maxHeartbeats 2000000 in
theorem sX3_costOnward_b88 {f : Bx} {k1 : Nat} {M : Mem} {ih16 : Int32 → Int32 → Int32 → Int32 → Int32 → Int32 → Option Int32} {x2 : Int32} {x3 : Int32} {x4 : Int32} {x5 : Int32} {x6 : Int32} {x7 : Int32} {d16 : Nat} (hk1 : isP k1) (h_M : OKb f M) (hx2 : (0 : Int) ≤ (x2).toInt ∧ (x2).toInt ≤ 255) (hx3 : (-1 : Int) ≤ (x3).toInt ∧ (x3).toInt ≤ 15) (hx5 : (0 : Int) ≤ (x5).toInt ∧ (x5).toInt ≤ 1) (hx7 : (0 : Int) ≤ (x7).toInt ∧ (x7).toInt ≤ 15) (hih16 : ∀ (yx2 : Int32) (yx3 : Int32) (yx4 : Int32) (yx5 : Int32) (yx6 : Int32) (yx7 : Int32), ((0 : Int) ≤ (yx2).toInt ∧ (yx2).toInt ≤ 255) → ((-1 : Int) ≤ (yx3).toInt ∧ (yx3).toInt ≤ 15) → ((0 : Int) ≤ (yx5).toInt ∧ (yx5).toInt ≤ 1) → ((0 : Int) ≤ (yx7).toInt ∧ (yx7).toInt ≤ 16) → 16 - (yx7).toInt < d16 → Sf (ih16 yx2 yx3 yx4 yx5 yx6 yx7) (pI (-2147483648) (2147483647))) (hmu16 : 16 - (x7).toInt ≤ d16) : Sf (mX3_costOnward_b88 110 k1 M ih16 x2 x3 x4 x5 x6 x7) (pI (-2147483648) (2147483647)) := by
  unfold mX3_costOnward_b88
  have n_1 : ((1 : Int32)).toInt = 1 := rfl
  try have a_2 : ((x7 + (1 : Int32))).toInt = (x7).toInt + ((1 : Int32)).toInt := i_add (by omega) (by omega)
  refine Sf.b (fun x7_88 e_x7_88 => ?_)
  have d_x7_88 := congrArg Int32.toInt e_x7_88
  exact (hih16 _ _ _ _ _ _ ⟨by omega, by omega⟩ ⟨by omega, by omega⟩ ⟨by omega, by omega⟩ ⟨by omega, by omega⟩ (by omega))
set_option maxHeartbeats 2000000 in
theorem sX3_costOnward_b71 {f : Bx} {k1 : Nat} {M : Mem} {ih16 : Int32 → Int32 → Int32 → Int32 → Int32 → Int32 → Option Int32} {x2 : Int32} {x3 : Int32} {x4 : Int32} {x5 : Int32} {x6 : Int32} {x7 : Int32} {x8 : Int32} {y0 : Int32} {d16 : Nat} (hk1 : isP k1) (h_M : OKb f M) (hx2 : (0 : Int) ≤ (x2).toInt ∧ (x2).toInt ≤ 255) (hx3 : (-1 : Int) ≤ (x3).toInt ∧ (x3).toInt ≤ 15) (hx5 : (0 : Int) ≤ (x5).toInt ∧ (x5).toInt ≤ 1) (hx7 : (0 : Int) ≤ (x7).toInt ∧ (x7).toInt ≤ 15) (hy0 : (0 : Int) ≤ (y0).toInt ∧ (y0).toInt ≤ 1) (hih16 : ∀ (yx2 : Int32) (yx3 : Int32) (yx4 : Int32) (yx5 : Int32) (yx6 : Int32) (yx7 : Int32), ((0 : Int) ≤ (yx2).toInt ∧ (yx2).toInt ≤ 255) → ((-1 : Int) ≤ (yx3).toInt ∧ (yx3).toInt ≤ 15) → ((0 : Int) ≤ (yx5).toInt ∧ (yx5).toInt ≤ 1) → ((0 : Int) ≤ (yx7).toInt ∧ (yx7).toInt ≤ 16) → 16 - (yx7).toInt < d16 → Sf (ih16 yx2 yx3 yx4 yx5 yx6 yx7) (pI (-2147483648) (2147483647))) (hmu16 : 16 - (x7).toInt ≤ d16) : Sf (mX3_costOnward_b71 110 k1 M ih16 x2 x3 x4 x5 x6 x7 x8 y0) (pI (-2147483648) (2147483647)) := by
  unfold mX3_costOnward_b71
  have n_1 : (((-1) : Int32)).toInt = -1 := rfl
  refine Sf.i (fun c_2 => ?_) (fun c_2 => ?_)
  · have c_2 := i_eq.mp c_2
    exact (sX3_costOnward_b88 hk1 h_M ⟨by omega, by omega⟩ ⟨by omega, by omega⟩ ⟨by omega, by omega⟩ ⟨by omega, by omega⟩ hih16 (by omega))
  · have c_2 := i_ne c_2
    have n_3 : ((0 : Int32)).toInt = 0 := rfl
    refine Sf.i (fun c_4 => ?_) (fun c_4 => ?_)
    · have c_4 := i_eq.mp c_4
      exact (sX3_costOnward_b88 hk1 h_M ⟨by omega, by omega⟩ ⟨by omega, by omega⟩ ⟨by omega, by omega⟩ ⟨by omega, by omega⟩ hih16 (by omega))
    · have c_4 := i_ne c_4
      exact (sX3_costOnward_b88 hk1 h_M ⟨by omega, by omega⟩ ⟨by omega, by omega⟩ ⟨by omega, by omega⟩ ⟨by omega, by omega⟩ hih16 (by omega))
set_option maxHeartbeats 2000000 in
theorem sX3_costOnward_b66 {f : Bx} {k1 : Nat} {M : Mem} {ih16 : Int32 → Int32 → Int32 → Int32 → Int32 → Int32 → Option Int32} {x2 : Int32} {x3 : Int32} {x4 : Int32} {x5 : Int32} {x6 : Int32} {x7 : Int32} {x8 : Int32} {d16 : Nat} (hk1 : isP k1) (h_M : OKb f M) (hx2 : (0 : Int) ≤ (x2).toInt ∧ (x2).toInt ≤ 255) (hx3 : (-1 : Int) ≤ (x3).toInt ∧ (x3).toInt ≤ 15) (hx5 : (0 : Int) ≤ (x5).toInt ∧ (x5).toInt ≤ 1) (hx7 : (0 : Int) ≤ (x7).toInt ∧ (x7).toInt ≤ 15) (hih16 : ∀ (yx2 : Int32) (yx3 : Int32) (yx4 : Int32) (yx5 : Int32) (yx6 : Int32) (yx7 : Int32), ((0 : Int) ≤ (yx2).toInt ∧ (yx2).toInt ≤ 255) → ((-1 : Int) ≤ (yx3).toInt ∧ (yx3).toInt ≤ 15) → ((0 : Int) ≤ (yx5).toInt ∧ (yx5).toInt ≤ 1) → ((0 : Int) ≤ (yx7).toInt ∧ (yx7).toInt ≤ 16) → 16 - (yx7).toInt < d16 → Sf (ih16 yx2 yx3 yx4 yx5 yx6 yx7) (pI (-2147483648) (2147483647))) (hmu16 : 16 - (x7).toInt ≤ d16) : Sf (mX3_costOnward_b66 110 k1 M ih16 x2 x3 x4 x5 x6 x7 x8) (pI (-2147483648) (2147483647)) := by
  unfold mX3_costOnward_b66
  have n_1 : ((1 : Int32)).toInt = 1 := rfl
  exact (sX3_costOnward_b71 hk1 h_M ⟨by omega, by omega⟩ ⟨by omega, by omega⟩ ⟨by omega, by omega⟩ ⟨by omega, by omega⟩ ⟨by omega, by omega⟩ hih16 (by omega))
set_option maxHeartbeats 2000000 in
theorem sX3_costOnward_b70 {f : Bx} {k1 : Nat} {M : Mem} {ih16 : Int32 → Int32 → Int32 → Int32 → Int32 → Int32 → Option Int32} {x2 : Int32} {x3 : Int32} {x4 : Int32} {x5 : Int32} {x6 : Int32} {x7 : Int32} {x8 : Int32} {d16 : Nat} (hk1 : isP k1) (h_M : OKb f M) (hx2 : (0 : Int) ≤ (x2).toInt ∧ (x2).toInt ≤ 255) (hx3 : (-1 : Int) ≤ (x3).toInt ∧ (x3).toInt ≤ 15) (hx5 : (0 : Int) ≤ (x5).toInt ∧ (x5).toInt ≤ 1) (hx7 : (0 : Int) ≤ (x7).toInt ∧ (x7).toInt ≤ 15) (hih16 : ∀ (yx2 : Int32) (yx3 : Int32) (yx4 : Int32) (yx5 : Int32) (yx6 : Int32) (yx7 : Int32), ((0 : Int) ≤ (yx2).toInt ∧ (yx2).toInt ≤ 255) → ((-1 : Int) ≤ (yx3).toInt ∧ (yx3).toInt ≤ 15) → ((0 : Int) ≤ (yx5).toInt ∧ (yx5).toInt ≤ 1) → ((0 : Int) ≤ (yx7).toInt ∧ (yx7).toInt ≤ 16) → 16 - (yx7).toInt < d16 → Sf (ih16 yx2 yx3 yx4 yx5 yx6 yx7) (pI (-2147483648) (2147483647))) (hmu16 : 16 - (x7).toInt ≤ d16) : Sf (mX3_costOnward_b70 110 k1 M ih16 x2 x3 x4 x5 x6 x7 x8) (pI (-2147483648) (2147483647)) := by
  unfold mX3_costOnward_b70
  have n_1 : ((0 : Int32)).toInt = 0 := rfl
  exact (sX3_costOnward_b71 hk1 h_M ⟨by omega, by omega⟩ ⟨by omega, by omega⟩ ⟨by omega, by omega⟩ ⟨by omega, by omega⟩ ⟨by omega, by omega⟩ hih16 (by omega))
set_option maxHeartbeats 2000000 in
theorem sX3_costOnward_b16 {f : Bx} {k1 : Nat} {M : Mem} {ih16 : Int32 → Int32 → Int32 → Int32 → Int32 → Int32 → Option Int32} {x2 : Int32} {x3 : Int32} {x4 : Int32} {x5 : Int32} {x6 : Int32} {x7 : Int32} {d16 : Nat} (hk1 : isP k1) (h_M : OKb f M) (hx2 : (0 : Int) ≤ (x2).toInt ∧ (x2).toInt ≤ 255) (hx3 : (-1 : Int) ≤ (x3).toInt ∧ (x3).toInt ≤ 15) (hx5 : (0 : Int) ≤ (x5).toInt ∧ (x5).toInt ≤ 1) (hx7 : (0 : Int) ≤ (x7).toInt ∧ (x7).toInt ≤ 16) (hih16 : ∀ (yx2 : Int32) (yx3 : Int32) (yx4 : Int32) (yx5 : Int32) (yx6 : Int32) (yx7 : Int32), ((0 : Int) ≤ (yx2).toInt ∧ (yx2).toInt ≤ 255) → ((-1 : Int) ≤ (yx3).toInt ∧ (yx3).toInt ≤ 15) → ((0 : Int) ≤ (yx5).toInt ∧ (yx5).toInt ≤ 1) → ((0 : Int) ≤ (yx7).toInt ∧ (yx7).toInt ≤ 16) → 16 - (yx7).toInt < d16 → Sf (ih16 yx2 yx3 yx4 yx5 yx6 yx7) (pI (-2147483648) (2147483647))) (hmu16 : 16 - (x7).toInt ≤ d16) : Sf (mX3_costOnward_b16 110 k1 M ih16 x2 x3 x4 x5 x6 x7) (pI (-2147483648) (2147483647)) := by
  unfold mX3_costOnward_b16
  have n_1 : ((16 : Int32)).toInt = 16 := rfl
  refine Sf.i (fun c_2 => ?_) (fun c_2 => ?_)
  · have c_2 := i_le.mp c_2
    exact Sf.ok (i_rng _)
  · have c_2 := i_nle c_2
    refine Sf.c (sX3_costThrough hk1 h_M ⟨by omega, by omega⟩ ⟨by omega, by omega⟩ ⟨by omega, by omega⟩ ⟨by omega, by omega⟩) (fun r7 p_3 => ?_)
    obtain ⟨p_3a, p_3b⟩ := p_3
    have n_4 : (((-1) : Int32)).toInt = -1 := rfl
    refine Sf.i (fun c_5 => ?_) (fun c_5 => ?_)
    · have c_5 := i_eq.mp c_5
      exact (sX3_costOnward_b66 hk1 h_M ⟨by omega, by omega⟩ ⟨by omega, by omega⟩ ⟨by omega, by omega⟩ ⟨by omega, by omega⟩ hih16 (by omega))
    · have c_5 := i_ne c_5
      have n_6 : ((0 : Int32)).toInt = 0 := rfl
      refine Sf.i (fun c_7 => ?_) (fun c_7 => ?_)
      · have c_7 := i_eq.mp c_7
        refine Sf.i (fun c_8 => ?_) (fun c_8 => ?_)
        · have c_8 := i_le.mp c_8
          exact (sX3_costOnward_b70 hk1 h_M ⟨by omega, by omega⟩ ⟨by omega, by omega⟩ ⟨by omega, by omega⟩ ⟨by omega, by omega⟩ hih16 (by omega))
        · have c_8 := i_nle c_8
          exact (sX3_costOnward_b66 hk1 h_M ⟨by omega, by omega⟩ ⟨by omega, by omega⟩ ⟨by omega, by omega⟩ ⟨by omega, by omega⟩ hih16 (by omega))
      · have c_7 := i_ne c_7
        refine Sf.i (fun c_9 => ?_) (fun c_9 => ?_)
        · have c_9 := i_le.mp c_9
          exact (sX3_costOnward_b70 hk1 h_M ⟨by omega, by omega⟩ ⟨by omega, by omega⟩ ⟨by omega, by omega⟩ ⟨by omega, by omega⟩ hih16 (by omega))
        · have c_9 := i_nle c_9
          exact (sX3_costOnward_b66 hk1 h_M ⟨by omega, by omega⟩ ⟨by omega, by omega⟩ ⟨by omega, by omega⟩ ⟨by omega, by omega⟩ hih16 (by omega))
theorem sX3_costOnward_l16_n {f : Bx} {k1 : Nat} (hk1 : isP k1) {M : Mem}  (h_M : OKb f M)   : ∀ (n : Nat) (x2 : Int32) (x3 : Int32) (x4 : Int32) (x5 : Int32) (x6 : Int32) (x7 : Int32) (hx2 : (0 : Int) ≤ (x2).toInt ∧ (x2).toInt ≤ 255) (hx3 : (-1 : Int) ≤ (x3).toInt ∧ (x3).toInt ≤ 15) (hx5 : (0 : Int) ≤ (x5).toInt ∧ (x5).toInt ≤ 1) (hx7 : (0 : Int) ≤ (x7).toInt ∧ (x7).toInt ≤ 16)   (hmu : 16 - (x7).toInt < n), Sf (mX3_costOnward_l16 110 k1 M n x2 x3 x4 x5 x6 x7) (pI (-2147483648) (2147483647)) := by
  intro n
  induction n with
  | zero => intro x2 x3 x4 x5 x6 x7 hx2 hx3 hx5 hx7 hmu; exfalso; omega
  | succ n IH => intro x2 x3 x4 x5 x6 x7 hx2 hx3 hx5 hx7 hmu; exact sX3_costOnward_b16 hk1 h_M hx2 hx3 hx5 hx7    IH (by omega)
theorem sX3_costOnward_l16 {f : Bx} {k1 : Nat} (hk1 : isP k1) {M : Mem} {x2 : Int32} {x3 : Int32} {x4 : Int32} {x5 : Int32} {x6 : Int32} {x7 : Int32}  (h_M : OKb f M) (hx2 : (0 : Int) ≤ (x2).toInt ∧ (x2).toInt ≤ 255) (hx3 : (-1 : Int) ≤ (x3).toInt ∧ (x3).toInt ≤ 15) (hx5 : (0 : Int) ≤ (x5).toInt ∧ (x5).toInt ≤ 1) (hx7 : (0 : Int) ≤ (x7).toInt ∧ (x7).toInt ≤ 16)    (hmu : 16 - (x7).toInt < 5000) : Sf (mX3_costOnward_l16 110 k1 M 5000 x2 x3 x4 x5 x6 x7) (pI (-2147483648) (2147483647)) :=
  sX3_costOnward_l16_n hk1 h_M   5000 _ _ _ _ _ _ hx2 hx3 hx5 hx7   hmu
set_option maxHeartbeats 2000000 in
theorem sX3_costOnward {f : Bx} {k1 : Nat} {x2 : Int32} {x3 : Int32} {x4 : Int32} {x5 : Int32} {M : Mem} (hk1 : isP k1) (h_M : OKb f M) (hx2 : (0 : Int) ≤ (x2).toInt ∧ (x2).toInt ≤ 255) (hx3 : (-1 : Int) ≤ (x3).toInt ∧ (x3).toInt ≤ 15) (hx5 : (0 : Int) ≤ (x5).toInt ∧ (x5).toInt ≤ 1) : Sf (mX3_costOnward 110 k1 x2 x3 x4 x5 M) (pI (-2147483648) (2147483647)) := by
  unfold mX3_costOnward
  refine Sf.c (sX1_allBends hk1 h_M) (fun r2 p_1 => ?_)
  obtain ⟨p_1a, p_1b⟩ := p_1
  refine Sf.i (fun c_2 => ?_) (fun c_2 => ?_)
  · have c_2 := i_eq.mp c_2
    exact Sf.ok (i_rng _)
  · have c_2 := i_ne c_2
    have n_3 : ((0 : Int32)).toInt = 0 := rfl
    exact (sX3_costOnward_l16 hk1 h_M ⟨by omega, by omega⟩ ⟨by omega, by omega⟩ ⟨by omega, by omega⟩ ⟨by omega, by omega⟩ (by omega))
set_option maxHeartbeats 2000000 in
theorem sX3_reckonCostsBehind_b101 {f : Bx} {k1 : Nat} {ih2 : Int32 → Int32 → Mem → Option (Mem × Unit)} {x2 : Int32} {x3 : Int32} {M : Mem} {d2 : Nat} (hk1 : isP k1) (h_M : OKb f M) (hx2 : (0 : Int) ≤ (x2).toInt ∧ (x2).toInt ≤ 255) (hx3 : (0 : Int) ≤ (x3).toInt ∧ (x3).toInt ≤ 15) (hih2 : ∀ (yx2 : Int32) (yx3 : Int32) (M : Mem), OKb f M → ((0 : Int) ≤ (yx2).toInt ∧ (yx2).toInt ≤ 255) → ((0 : Int) ≤ (yx3).toInt ∧ (yx3).toInt ≤ 16) → 16 - (yx3).toInt < d2 → Sf (ih2 yx2 yx3 M) (pM f)) (hmu2 : 16 - (x3).toInt ≤ d2) : Sf (mX3_reckonCostsBehind_b101 110 k1 ih2 x2 x3 M) (pM f) := by
  unfold mX3_reckonCostsBehind_b101
  have n_1 : ((1 : Int32)).toInt = 1 := rfl
  try have a_2 : ((x3 + (1 : Int32))).toInt = (x3).toInt + ((1 : Int32)).toInt := i_add (by omega) (by omega)
  refine Sf.b (fun x3_101 e_x3_101 => ?_)
  have d_x3_101 := congrArg Int32.toInt e_x3_101
  exact (hih2 _ _ _ h_M ⟨by omega, by omega⟩ ⟨by omega, by omega⟩ (by omega))
set_option maxHeartbeats 2000000 in
theorem sX3_reckonCostsBehind_b2 {f : Bx} {k1 : Nat} {ih2 : Int32 → Int32 → Mem → Option (Mem × Unit)} {x2 : Int32} {x3 : Int32} {M : Mem} {d2 : Nat} (hk1 : isP k1) (h_M : OKb f M) (hx2 : (0 : Int) ≤ (x2).toInt ∧ (x2).toInt ≤ 255) (hx3 : (0 : Int) ≤ (x3).toInt ∧ (x3).toInt ≤ 16) (hih2 : ∀ (yx2 : Int32) (yx3 : Int32) (M : Mem), OKb f M → ((0 : Int) ≤ (yx2).toInt ∧ (yx2).toInt ≤ 255) → ((0 : Int) ≤ (yx3).toInt ∧ (yx3).toInt ≤ 16) → 16 - (yx3).toInt < d2 → Sf (ih2 yx2 yx3 M) (pM f)) (hmu2 : 16 - (x3).toInt ≤ d2) : Sf (mX3_reckonCostsBehind_b2 110 k1 ih2 x2 x3 M) (pM f) := by
  unfold mX3_reckonCostsBehind_b2
  have n_1 : ((16 : Int32)).toInt = 16 := rfl
  refine Sf.i (fun c_2 => ?_) (fun c_2 => ?_)
  · have c_2 := i_le.mp c_2
    exact Sf.ok h_M
  · have c_2 := i_nle c_2
    try have a_3 := i_shr1 (a := x3)
    try have a_4 : 0 < (((1 : Int32) <<< ((x3 >>> ((1 : Int32) &&& 31)) &&& 31))).toInt ∧ (((1 : Int32) <<< ((x3 >>> ((1 : Int32) &&& 31)) &&& 31))).toInt ≤ 128 := i_shl 7 (by decide) ⟨by omega, by omega⟩
    have n_5 : (((-1) : Int32)).toInt = -1 := rfl
    try have a_6 := i_and (a := x2) (b := (((1 : Int32) <<< ((x3 >>> ((1 : Int32) &&& 31)) &&& 31)) ^^^ ((-1) : Int32))) (by omega)
    refine Sf.b (fun x4_17 e_x4_17 => ?_)
    have d_x4_17 := congrArg Int32.toInt e_x4_17
    refine Sf.i (fun c_7 => ?_) (fun c_7 => ?_)
    · have c_7 := i_eq.mp c_7
      exact (sX3_reckonCostsBehind_b101 hk1 h_M ⟨by omega, by omega⟩ ⟨by omega, by omega⟩ hih2 (by omega))
    · have c_7 := i_ne c_7
      refine Sf.k (ok_in (by omega) (by omega)) ?_
      have b_8 : (0 : Int) ≤ (rd M (110 + 18) ((x4_17).toNatClampNeg)).toInt ∧ (rd M (110 + 18) ((x4_17).toNatClampNeg)).toInt ≤ 1 := h_M.at rfl
      have n_9 : ((0 : Int32)).toInt = 0 := rfl
      refine Sf.i (fun c_10 => ?_) (fun c_10 => ?_)
      · have c_10 := i_eq.mp c_10
        exact (sX3_reckonCostsBehind_b101 hk1 h_M ⟨by omega, by omega⟩ ⟨by omega, by omega⟩ hih2 (by omega))
      · have c_10 := i_ne c_10
        refine Sf.c (sX3_isOpen h_M ⟨by omega, by omega⟩ ⟨by omega, by omega⟩) (fun r8 p_11 => ?_)
        obtain ⟨p_11a, p_11b⟩ := p_11
        refine Sf.i (fun c_12 => ?_) (fun c_12 => ?_)
        · have c_12 := i_eq.mp c_12
          exact (sX3_reckonCostsBehind_b101 hk1 h_M ⟨by omega, by omega⟩ ⟨by omega, by omega⟩ hih2 (by omega))
        · have c_12 := i_ne c_12
          try have a_13 : ((x4_17 * (16 : Int32))).toInt = (x4_17).toInt * 16 := i_mulr (by omega) (by omega) (by omega)
          try have a_14 : (((x4_17 * (16 : Int32)) + x3)).toInt = ((x4_17 * (16 : Int32))).toInt + (x3).toInt := i_add (by omega) (by omega)
          refine Sf.k (ok_in (by omega) (by omega)) ?_
          have b_15 : (0 : Int) ≤ (rd M (110 + 20) ((((x4_17 * (16 : Int32)) + x3)).toNatClampNeg)).toInt ∧ (rd M (110 + 20) ((((x4_17 * (16 : Int32)) + x3)).toNatClampNeg)).toInt ≤ 2147483647 := h_M.at rfl
          refine Sf.b (fun x5_57 e_x5_57 => ?_)
          have d_x5_57 := congrArg Int32.toInt e_x5_57
          have n_16 : ((1 : Int32)).toInt = 1 := rfl
          refine Sf.c (sX3_costOnward hk1 h_M ⟨by omega, by omega⟩ ⟨by omega, by omega⟩ ⟨by omega, by omega⟩) (fun r14 p_17 => ?_)
          obtain ⟨p_17a, p_17b⟩ := p_17
          try have a_18 : ((x2 * (16 : Int32))).toInt = (x2).toInt * 16 := i_mulr (by omega) (by omega) (by omega)
          try have a_19 : (((x2 * (16 : Int32)) + x3)).toInt = ((x2 * (16 : Int32))).toInt + (x3).toInt := i_add (by omega) (by omega)
          refine Sf.k (ok_in (by omega) (by omega)) ?_
          refine Sf.b (fun M18 e_M18 => ?_)
          have h_M18 : OKb f M18 := by rw [e_M18]; exact h_M.put rfl (i_rng _)
          have n_20 : ((0 : Int32)).toInt = 0 := rfl
          refine Sf.c (sX3_costOnward hk1 h_M18 ⟨by omega, by omega⟩ ⟨by omega, by omega⟩ ⟨by omega, by omega⟩) (fun r20 p_21 => ?_)
          obtain ⟨p_21a, p_21b⟩ := p_21
          refine Sf.k (ok_in (by omega) (by omega)) ?_
          refine Sf.b (fun M24 e_M24 => ?_)
          have h_M24 : OKb f M24 := by rw [e_M24]; exact h_M18.put rfl (i_rng _)
          exact (sX3_reckonCostsBehind_b101 hk1 h_M24 ⟨by omega, by omega⟩ ⟨by omega, by omega⟩ hih2 (by omega))
theorem sX3_reckonCostsBehind_l2_n {f : Bx} {k1 : Nat} (hk1 : isP k1)   : ∀ (n : Nat) (x2 : Int32) (x3 : Int32) (M : Mem) (h_M : OKb f M) (hx2 : (0 : Int) ≤ (x2).toInt ∧ (x2).toInt ≤ 255) (hx3 : (0 : Int) ≤ (x3).toInt ∧ (x3).toInt ≤ 16)    (hmu : 16 - (x3).toInt < n), Sf (mX3_reckonCostsBehind_l2 110 k1 n x2 x3 M) (pM f) := by
  intro n
  induction n with
  | zero => intro x2 x3 M h_M hx2 hx3 hmu; exfalso; omega
  | succ n IH => intro x2 x3 M h_M hx2 hx3 hmu; exact sX3_reckonCostsBehind_b2 hk1 h_M hx2 hx3    IH (by omega)
theorem sX3_reckonCostsBehind_l2 {f : Bx} {k1 : Nat} (hk1 : isP k1) {x2 : Int32} {x3 : Int32} {M : Mem}  (h_M : OKb f M) (hx2 : (0 : Int) ≤ (x2).toInt ∧ (x2).toInt ≤ 255) (hx3 : (0 : Int) ≤ (x3).toInt ∧ (x3).toInt ≤ 16)    (hmu : 16 - (x3).toInt < 5000) : Sf (mX3_reckonCostsBehind_l2 110 k1 5000 x2 x3 M) (pM f) :=
  sX3_reckonCostsBehind_l2_n hk1  5000 _ _ M h_M hx2 hx3    hmu
set_option maxHeartbeats 2000000 in
theorem sX3_reckonCostsBehind {f : Bx} {k1 : Nat} {x2 : Int32} {M : Mem} (hk1 : isP k1) (h_M : OKb f M) (hx2 : (0 : Int) ≤ (x2).toInt ∧ (x2).toInt ≤ 255) : Sf (mX3_reckonCostsBehind 110 k1 x2 M) (pM f) := by
  unfold mX3_reckonCostsBehind
  have n_1 : ((0 : Int32)).toInt = 0 := rfl
  exact (sX3_reckonCostsBehind_l2 hk1 h_M ⟨by omega, by omega⟩ ⟨by omega, by omega⟩ (by omega))
set_option maxHeartbeats 2000000 in
theorem sX3_reckonCosts_b27 {f : Bx} {k1 : Nat} {ih4 : Int32 → Mem → Option (Mem × Unit)} {x2 : Int32} {M : Mem} {d4 : Nat} (hk1 : isP k1) (h_M : OKb f M) (hx2 : (0 : Int) ≤ (x2).toInt ∧ (x2).toInt ≤ 255) (hih4 : ∀ (yx2 : Int32) (M : Mem), OKb f M → ((-1 : Int) ≤ (yx2).toInt ∧ (yx2).toInt ≤ 255) → (yx2).toInt - (-1) < d4 → Sf (ih4 yx2 M) (pM f)) (hmu4 : (x2).toInt - (-1) ≤ d4) : Sf (mX3_reckonCosts_b27 110 k1 ih4 x2 M) (pM f) := by
  unfold mX3_reckonCosts_b27
  have n_1 : (((-1) : Int32)).toInt = -1 := rfl
  try have a_2 : ((x2 + ((-1) : Int32))).toInt = (x2).toInt + (((-1) : Int32)).toInt := i_add (by omega) (by omega)
  refine Sf.b (fun x2_27 e_x2_27 => ?_)
  have d_x2_27 := congrArg Int32.toInt e_x2_27
  exact (hih4 _ _ h_M ⟨by omega, by omega⟩ (by omega))
set_option maxHeartbeats 2000000 in
theorem sX3_reckonCosts_b4 {f : Bx} {k1 : Nat} {ih4 : Int32 → Mem → Option (Mem × Unit)} {x2 : Int32} {M : Mem} {d4 : Nat} (hk1 : isP k1) (h_M : OKb f M) (hx2 : (-1 : Int) ≤ (x2).toInt ∧ (x2).toInt ≤ 255) (hih4 : ∀ (yx2 : Int32) (M : Mem), OKb f M → ((-1 : Int) ≤ (yx2).toInt ∧ (yx2).toInt ≤ 255) → (yx2).toInt - (-1) < d4 → Sf (ih4 yx2 M) (pM f)) (hmu4 : (x2).toInt - (-1) ≤ d4) : Sf (mX3_reckonCosts_b4 110 k1 ih4 x2 M) (pM f) := by
  unfold mX3_reckonCosts_b4
  have b_1 : (0 : Int) ≤ (rd M k1 13).toInt ∧ (rd M k1 13).toInt ≤ 255 := h_M.at (bx_P0 hk1)
  refine Sf.i (fun c_2 => ?_) (fun c_2 => ?_)
  · have c_2 := i_le.mp c_2
    refine Sf.c (sX1_lastCode hk1 h_M) (fun r3 p_3 => ?_)
    obtain ⟨p_3a, p_3b⟩ := p_3
    refine Sf.c (sX1_lastGauge hk1 h_M) (fun r6 p_4 => ?_)
    obtain ⟨p_4a, p_4b⟩ := p_4
    have n_5 : ((1 : Int32)).toInt = 1 := rfl
    refine Sf.c (sX3_costOnward hk1 h_M ⟨by omega, by omega⟩ ⟨by omega, by omega⟩ ⟨by omega, by omega⟩) (fun r9 p_6 => ?_)
    obtain ⟨p_6a, p_6b⟩ := p_6
    refine Sf.b (fun M11 e_M11 => ?_)
    have h_M11 : OKb f M11 := by rw [e_M11]; exact h_M.put rfl (i_rng _)
    refine Sf.c (sX1_lastCode hk1 h_M11) (fun r14 p_7 => ?_)
    obtain ⟨p_7a, p_7b⟩ := p_7
    refine Sf.c (sX1_lastGauge hk1 h_M11) (fun r17 p_8 => ?_)
    obtain ⟨p_8a, p_8b⟩ := p_8
    have b_10 : (0 : Int) ≤ (rd M11 k1 13).toInt ∧ (rd M11 k1 13).toInt ≤ 255 := h_M11.at (bx_P0 hk1)
    have n_11 : ((0 : Int32)).toInt = 0 := rfl
    refine Sf.c (sX3_costOnward hk1 h_M11 ⟨by omega, by omega⟩ ⟨by omega, by omega⟩ ⟨by omega, by omega⟩) (fun r20 p_12 => ?_)
    obtain ⟨p_12a, p_12b⟩ := p_12
    refine Sf.b (fun M22 e_M22 => ?_)
    have h_M22 : OKb f M22 := by rw [e_M22]; exact h_M11.put rfl (i_rng _)
    exact Sf.ok h_M22
  · have c_2 := i_nle c_2
    refine Sf.k (ok_in (by omega) (by omega)) ?_
    have b_13 : (0 : Int) ≤ (rd M (110 + 18) ((x2).toNatClampNeg)).toInt ∧ (rd M (110 + 18) ((x2).toNatClampNeg)).toInt ≤ 1 := h_M.at rfl
    have n_14 : ((0 : Int32)).toInt = 0 := rfl
    refine Sf.i (fun c_15 => ?_) (fun c_15 => ?_)
    · have c_15 := i_eq.mp c_15
      exact (sX3_reckonCosts_b27 hk1 h_M ⟨by omega, by omega⟩ hih4 (by omega))
    · have c_15 := i_ne c_15
      refine Sf.m (sX3_reckonCostsBehind hk1 h_M ⟨by omega, by omega⟩) (fun M29 _ h_M29 => ?_)
      have h_M29 : OKb f M29 := h_M29
      exact (sX3_reckonCosts_b27 hk1 h_M29 ⟨by omega, by omega⟩ hih4 (by omega))
theorem sX3_reckonCosts_l4_n {f : Bx} {k1 : Nat} (hk1 : isP k1)   : ∀ (n : Nat) (x2 : Int32) (M : Mem) (h_M : OKb f M) (hx2 : (-1 : Int) ≤ (x2).toInt ∧ (x2).toInt ≤ 255)    (hmu : (x2).toInt - (-1) < n), Sf (mX3_reckonCosts_l4 110 k1 n x2 M) (pM f) := by
  intro n
  induction n with
  | zero => intro x2 M h_M hx2 hmu; exfalso; omega
  | succ n IH => intro x2 M h_M hx2 hmu; exact sX3_reckonCosts_b4 hk1 h_M hx2    IH (by omega)
theorem sX3_reckonCosts_l4 {f : Bx} {k1 : Nat} (hk1 : isP k1) {x2 : Int32} {M : Mem}  (h_M : OKb f M) (hx2 : (-1 : Int) ≤ (x2).toInt ∧ (x2).toInt ≤ 255)    (hmu : (x2).toInt - (-1) < 5000) : Sf (mX3_reckonCosts_l4 110 k1 5000 x2 M) (pM f) :=
  sX3_reckonCosts_l4_n hk1  5000 _ M h_M hx2    hmu
set_option maxHeartbeats 2000000 in
theorem sX3_reckonCosts {f : Bx} {k1 : Nat} {M : Mem} (hk1 : isP k1) (h_M : OKb f M) : Sf (mX3_reckonCosts 110 k1 M) (pM f) := by
  unfold mX3_reckonCosts
  have n_1 : ((255 : Int32)).toInt = 255 := rfl
  exact (sX3_reckonCosts_l4 hk1 h_M ⟨by omega, by omega⟩ (by omega))
set_option maxHeartbeats 2000000 in
theorem sX3_smallestStep_b3 {f : Bx} {k1 : Nat} {M : Mem} {ih3 : Int32 → Int32 → Int32 → Int32 → Int32 → Option Int32} {x2 : Int32} {x3 : Int32} {x4 : Int32} {x5 : Int32} {x6 : Int32} {d3 : Nat} (hk1 : isP k1) (h_M : OKb f M) (hx2 : (0 : Int) ≤ (x2).toInt ∧ (x2).toInt ≤ 255) (hx3 : (-1 : Int) ≤ (x3).toInt ∧ (x3).toInt ≤ 15) (hx6 : (0 : Int) ≤ (x6).toInt ∧ (x6).toInt ≤ 16) (hih3 : ∀ (yx2 : Int32) (yx3 : Int32) (yx4 : Int32) (yx5 : Int32) (yx6 : Int32), ((0 : Int) ≤ (yx2).toInt ∧ (yx2).toInt ≤ 255) → ((-1 : Int) ≤ (yx3).toInt ∧ (yx3).toInt ≤ 15) → ((0 : Int) ≤ (yx6).toInt ∧ (yx6).toInt ≤ 16) → 16 - (yx6).toInt < d3 → Sf (ih3 yx2 yx3 yx4 yx5 yx6) (pI (-1) (15))) (hmu3 : 16 - (x6).toInt ≤ d3) : Sf (mX3_smallestStep_b3 110 k1 M ih3 x2 x3 x4 x5 x6) (pI (-1) (15)) := by
  unfold mX3_smallestStep_b3
  have n_1 : ((16 : Int32)).toInt = 16 := rfl
  refine Sf.i (fun c_2 => ?_) (fun c_2 => ?_)
  · have c_2 := i_le.mp c_2
    have n_3 : (((-1) : Int32)).toInt = -1 := rfl
    have z_4 : (-1 : Int) ≤ (((-1) : Int32)).toInt ∧ (((-1) : Int32)).toInt ≤ 15 := ⟨by omega, by omega⟩
    exact Sf.ok z_4
  · have c_2 := i_nle c_2
    have n_5 : ((1 : Int32)).toInt = 1 := rfl
    refine Sf.c (sX3_costThrough hk1 h_M ⟨by omega, by omega⟩ ⟨by omega, by omega⟩ ⟨by omega, by omega⟩ ⟨by omega, by omega⟩) (fun r3 p_6 => ?_)
    obtain ⟨p_6a, p_6b⟩ := p_6
    refine Sf.i (fun c_7 => ?_) (fun c_7 => ?_)
    · have c_7 := i_eq.mp c_7
      have z_8 : (-1 : Int) ≤ (x6).toInt ∧ (x6).toInt ≤ 15 := ⟨by omega, by omega⟩
      exact Sf.ok z_8
    · have c_7 := i_ne c_7
      try have a_9 : ((x6 + (1 : Int32))).toInt = (x6).toInt + ((1 : Int32)).toInt := i_add (by omega) (by omega)
      refine Sf.b (fun x6_30 e_x6_30 => ?_)
      have d_x6_30 := congrArg Int32.toInt e_x6_30
      exact (hih3 _ _ _ _ _ ⟨by omega, by omega⟩ ⟨by omega, by omega⟩ ⟨by omega, by omega⟩ (by omega))
theorem sX3_smallestStep_l3_n {f : Bx} {k1 : Nat} (hk1 : isP k1) {M : Mem}  (h_M : OKb f M)   : ∀ (n : Nat) (x2 : Int32) (x3 : Int32) (x4 : Int32) (x5 : Int32) (x6 : Int32) (hx2 : (0 : Int) ≤ (x2).toInt ∧ (x2).toInt ≤ 255) (hx3 : (-1 : Int) ≤ (x3).toInt ∧ (x3).toInt ≤ 15) (hx6 : (0 : Int) ≤ (x6).toInt ∧ (x6).toInt ≤ 16)   (hmu : 16 - (x6).toInt < n), Sf (mX3_smallestStep_l3 110 k1 M n x2 x3 x4 x5 x6) (pI (-1) (15)) := by
  intro n
  induction n with
  | zero => intro x2 x3 x4 x5 x6 hx2 hx3 hx6 hmu; exfalso; omega
  | succ n IH => intro x2 x3 x4 x5 x6 hx2 hx3 hx6 hmu; exact sX3_smallestStep_b3 hk1 h_M hx2 hx3 hx6    IH (by omega)
theorem sX3_smallestStep_l3 {f : Bx} {k1 : Nat} (hk1 : isP k1) {M : Mem} {x2 : Int32} {x3 : Int32} {x4 : Int32} {x5 : Int32} {x6 : Int32}  (h_M : OKb f M) (hx2 : (0 : Int) ≤ (x2).toInt ∧ (x2).toInt ≤ 255) (hx3 : (-1 : Int) ≤ (x3).toInt ∧ (x3).toInt ≤ 15) (hx6 : (0 : Int) ≤ (x6).toInt ∧ (x6).toInt ≤ 16)    (hmu : 16 - (x6).toInt < 5000) : Sf (mX3_smallestStep_l3 110 k1 M 5000 x2 x3 x4 x5 x6) (pI (-1) (15)) :=
  sX3_smallestStep_l3_n hk1 h_M   5000 _ _ _ _ _ hx2 hx3 hx6   hmu
set_option maxHeartbeats 2000000 in
theorem sX3_smallestStep {f : Bx} {k1 : Nat} {x2 : Int32} {x3 : Int32} {x4 : Int32} {x5 : Int32} {M : Mem} (hk1 : isP k1) (h_M : OKb f M) (hx2 : (0 : Int) ≤ (x2).toInt ∧ (x2).toInt ≤ 255) (hx3 : (-1 : Int) ≤ (x3).toInt ∧ (x3).toInt ≤ 15) : Sf (mX3_smallestStep 110 k1 x2 x3 x4 x5 M) (pI (-1) (15)) := by
  unfold mX3_smallestStep
  have n_1 : ((0 : Int32)).toInt = 0 := rfl
  exact (sX3_smallestStep_l3 hk1 h_M ⟨by omega, by omega⟩ ⟨by omega, by omega⟩ ⟨by omega, by omega⟩ (by omega))
set_option maxHeartbeats 2000000 in
theorem sX3_choosePlan_b127 {f : Bx} {k1 : Nat} {ih40 : Int32 → Int32 → Int32 → Int32 → Int32 → Mem → Option (Mem × Unit)} {x2 : Int32} {x3 : Int32} {x4 : Int32} {x5 : Int32} {x6 : Int32} {M : Mem} {d40 : Nat} (hk1 : isP k1) (h_M : OKb f M) (hx2 : (0 : Int) ≤ (x2).toInt ∧ (x2).toInt ≤ 255) (hx3 : (-1 : Int) ≤ (x3).toInt ∧ (x3).toInt ≤ 15) (hx6 : (0 : Int) ≤ (x6).toInt ∧ (x6).toInt ≤ 7) (hih40 : ∀ (yx2 : Int32) (yx3 : Int32) (yx4 : Int32) (yx5 : Int32) (yx6 : Int32) (M : Mem), OKb f M → ((0 : Int) ≤ (yx2).toInt ∧ (yx2).toInt ≤ 255) → ((-1 : Int) ≤ (yx3).toInt ∧ (yx3).toInt ≤ 15) → ((0 : Int) ≤ (yx6).toInt ∧ (yx6).toInt ≤ 8) → 8 - (yx6).toInt < d40 → Sf (ih40 yx2 yx3 yx4 yx5 yx6 M) (pM f)) (hmu40 : 8 - (x6).toInt ≤ d40) : Sf (mX3_choosePlan_b127 110 k1 ih40 x2 x3 x4 x5 x6 M) (pM f) := by
  unfold mX3_choosePlan_b127
  have n_1 : ((1 : Int32)).toInt = 1 := rfl
  try have a_2 : ((x6 + (1 : Int32))).toInt = (x6).toInt + ((1 : Int32)).toInt := i_add (by omega) (by omega)
  refine Sf.b (fun x6_127 e_x6_127 => ?_)
  have d_x6_127 := congrArg Int32.toInt e_x6_127
  exact (hih40 _ _ _ _ _ _ h_M ⟨by omega, by omega⟩ ⟨by omega, by omega⟩ ⟨by omega, by omega⟩ (by omega))
set_option maxHeartbeats 2000000 in
theorem sX3_choosePlan_b40 {f : Bx} {k1 : Nat} {ih40 : Int32 → Int32 → Int32 → Int32 → Int32 → Mem → Option (Mem × Unit)} {x2 : Int32} {x3 : Int32} {x4 : Int32} {x5 : Int32} {x6 : Int32} {M : Mem} {d40 : Nat} (hk1 : isP k1) (h_M : OKb f M) (hx2 : (0 : Int) ≤ (x2).toInt ∧ (x2).toInt ≤ 255) (hx3 : (-1 : Int) ≤ (x3).toInt ∧ (x3).toInt ≤ 15) (hx6 : (0 : Int) ≤ (x6).toInt ∧ (x6).toInt ≤ 8) (hih40 : ∀ (yx2 : Int32) (yx3 : Int32) (yx4 : Int32) (yx5 : Int32) (yx6 : Int32) (M : Mem), OKb f M → ((0 : Int) ≤ (yx2).toInt ∧ (yx2).toInt ≤ 255) → ((-1 : Int) ≤ (yx3).toInt ∧ (yx3).toInt ≤ 15) → ((0 : Int) ≤ (yx6).toInt ∧ (yx6).toInt ≤ 8) → 8 - (yx6).toInt < d40 → Sf (ih40 yx2 yx3 yx4 yx5 yx6 M) (pM f)) (hmu40 : 8 - (x6).toInt ≤ d40) : Sf (mX3_choosePlan_b40 110 k1 ih40 x2 x3 x4 x5 x6 M) (pM f) := by
  unfold mX3_choosePlan_b40
  have n_1 : ((8 : Int32)).toInt = 8 := rfl
  refine Sf.i (fun c_2 => ?_) (fun c_2 => ?_)
  · have c_2 := i_le.mp c_2
    exact Sf.ok h_M
  · have c_2 := i_nle c_2
    have n_3 : (((-1) : Int32)).toInt = -1 := rfl
    refine Sf.i (fun c_4 => ?_) (fun c_4 => ?_)
    · have c_4 := i_eq.mp c_4
      exact Sf.ok h_M
    · have c_4 := i_ne c_4
      refine Sf.c (sX3_smallestStep hk1 h_M ⟨by omega, by omega⟩ ⟨by omega, by omega⟩) (fun r15 p_5 => ?_)
      obtain ⟨p_5a, p_5b⟩ := p_5
      refine Sf.i (fun c_6 => ?_) (fun c_6 => ?_)
      · have c_6 := i_eq.mp c_6
        exact (sX3_choosePlan_b127 hk1 h_M ⟨by omega, by omega⟩ ⟨by omega, by omega⟩ ⟨by omega, by omega⟩ hih40 (by omega))
      · have c_6 := i_ne c_6
        refine Sf.k (ok_in (by omega) (by omega)) ?_
        have z_7 : (0 : Int) ≤ (r15).toInt ∧ (r15).toInt ≤ 15 := ⟨by omega, by omega⟩
        refine Sf.b (fun M21 e_M21 => ?_)
        have h_M21 : OKb f M21 := by rw [e_M21]; exact h_M.put rfl z_7
        have n_8 : ((1 : Int32)).toInt = 1 := rfl
        try have a_9 : ((x6 + (1 : Int32))).toInt = (x6).toInt + ((1 : Int32)).toInt := i_add (by omega) (by omega)
        have z_10 : (-1 : Int) ≤ ((x6 + (1 : Int32))).toInt ∧ ((x6 + (1 : Int32))).toInt ≤ 8 := ⟨by omega, by omega⟩
        refine Sf.b (fun M22 e_M22 => ?_)
        have h_M22 : OKb f M22 := by rw [e_M22]; exact h_M21.put rfl z_10
        have n_11 : ((16 : Int32)).toInt = 16 := rfl
        try have a_12 : ((x2 * (16 : Int32))).toInt = (x2).toInt * 16 := i_mulr (by omega) (by omega) (by omega)
        try have a_13 : (((x2 * (16 : Int32)) + r15)).toInt = ((x2 * (16 : Int32))).toInt + (r15).toInt := i_add (by omega) (by omega)
        refine Sf.k (ok_in (by omega) (by omega)) ?_
        have w_14 : (rd M22 (110 + 20) ((((x2 * (16 : Int32)) + r15)).toNatClampNeg)).toInt = (rd M21 (110 + 20) ((((x2 * (16 : Int32)) + r15)).toNatClampNeg)).toInt := by rw [e_M22, rd_wk (by omega)]
        have w_15 : (rd M21 (110 + 20) ((((x2 * (16 : Int32)) + r15)).toNatClampNeg)).toInt = (rd M (110 + 20) ((((x2 * (16 : Int32)) + r15)).toNatClampNeg)).toInt := by rw [e_M21, rd_wk (by omega)]
        have b_16 : (0 : Int) ≤ (rd M (110 + 20) ((((x2 * (16 : Int32)) + r15)).toNatClampNeg)).toInt ∧ (rd M (110 + 20) ((((x2 * (16 : Int32)) + r15)).toNatClampNeg)).toInt ≤ 2147483647 := h_M.at rfl
        refine Sf.b (fun x4_104 e_x4_104 => ?_)
        have d_x4_104 := congrArg Int32.toInt e_x4_104
        refine Sf.c (sX3_setBehind h_M22 ⟨by omega, by omega⟩ ⟨by omega, by omega⟩) (fun r27 p_17 => ?_)
        obtain ⟨p_17a, p_17b⟩ := p_17
        try have a_18 : ((r27 * (16 : Int32))).toInt = (r27).toInt * 16 := i_mulr (by omega) (by omega) (by omega)
        try have a_19 : (((r27 * (16 : Int32)) + r15)).toInt = ((r27 * (16 : Int32))).toInt + (r15).toInt := i_add (by omega) (by omega)
        refine Sf.k (ok_in (by omega) (by omega)) ?_
        have w_20 : (rd M22 (110 + 21) ((((r27 * (16 : Int32)) + r15)).toNatClampNeg)).toInt = (rd M21 (110 + 21) ((((r27 * (16 : Int32)) + r15)).toNatClampNeg)).toInt := by rw [e_M22, rd_wk (by omega)]
        have w_21 : (rd M21 (110 + 21) ((((r27 * (16 : Int32)) + r15)).toNatClampNeg)).toInt = (rd M (110 + 21) ((((r27 * (16 : Int32)) + r15)).toNatClampNeg)).toInt := by rw [e_M21, rd_wk (by omega)]
        refine Sf.b (fun x5_125 e_x5_125 => ?_)
        have d_x5_125 := congrArg Int32.toInt e_x5_125
        exact (sX3_choosePlan_b127 hk1 h_M22 ⟨by omega, by omega⟩ ⟨by omega, by omega⟩ ⟨by omega, by omega⟩ hih40 (by omega))
theorem sX3_choosePlan_l40_n {f : Bx} {k1 : Nat} (hk1 : isP k1)   : ∀ (n : Nat) (x2 : Int32) (x3 : Int32) (x4 : Int32) (x5 : Int32) (x6 : Int32) (M : Mem) (h_M : OKb f M) (hx2 : (0 : Int) ≤ (x2).toInt ∧ (x2).toInt ≤ 255) (hx3 : (-1 : Int) ≤ (x3).toInt ∧ (x3).toInt ≤ 15) (hx6 : (0 : Int) ≤ (x6).toInt ∧ (x6).toInt ≤ 8)    (hmu : 8 - (x6).toInt < n), Sf (mX3_choosePlan_l40 110 k1 n x2 x3 x4 x5 x6 M) (pM f) := by
  intro n
  induction n with
  | zero => intro x2 x3 x4 x5 x6 M h_M hx2 hx3 hx6 hmu; exfalso; omega
  | succ n IH => intro x2 x3 x4 x5 x6 M h_M hx2 hx3 hx6 hmu; exact sX3_choosePlan_b40 hk1 h_M hx2 hx3 hx6    IH (by omega)
theorem sX3_choosePlan_l40 {f : Bx} {k1 : Nat} (hk1 : isP k1) {x2 : Int32} {x3 : Int32} {x4 : Int32} {x5 : Int32} {x6 : Int32} {M : Mem}  (h_M : OKb f M) (hx2 : (0 : Int) ≤ (x2).toInt ∧ (x2).toInt ≤ 255) (hx3 : (-1 : Int) ≤ (x3).toInt ∧ (x3).toInt ≤ 15) (hx6 : (0 : Int) ≤ (x6).toInt ∧ (x6).toInt ≤ 8)    (hmu : 8 - (x6).toInt < 5000) : Sf (mX3_choosePlan_l40 110 k1 5000 x2 x3 x4 x5 x6 M) (pM f) :=
  sX3_choosePlan_l40_n hk1  5000 _ _ _ _ _ M h_M hx2 hx3 hx6    hmu
set_option maxHeartbeats 2000000 in
theorem sX3_choosePlan_b34 {f : Bx} {k1 : Nat} {x2 : Int32} {x3 : Int32} {x4 : Int32} {x5 : Int32} {y1 : Int32} {M : Mem} (hk1 : isP k1) (h_M : OKb f M) (hx2 : (0 : Int) ≤ (x2).toInt ∧ (x2).toInt ≤ 255) (hx3 : (-1 : Int) ≤ (x3).toInt ∧ (x3).toInt ≤ 15) (hy1 : (-1 : Int) ≤ (y1).toInt ∧ (y1).toInt ≤ 0) : Sf (mX3_choosePlan_b34 110 k1 x2 x3 x4 x5 y1 M) (pM f) := by
  unfold mX3_choosePlan_b34
  have z_1 : (-1 : Int) ≤ (y1).toInt ∧ (y1).toInt ≤ 8 := ⟨by omega, by omega⟩
  refine Sf.b (fun M10 e_M10 => ?_)
  have h_M10 : OKb f M10 := by rw [e_M10]; exact h_M.put rfl z_1
  have n_2 : ((0 : Int32)).toInt = 0 := rfl
  exact (sX3_choosePlan_l40 hk1 h_M10 ⟨by omega, by omega⟩ ⟨by omega, by omega⟩ ⟨by omega, by omega⟩ (by omega))
set_option maxHeartbeats 2000000 in
theorem sX3_choosePlan {f : Bx} {k1 : Nat} {M : Mem} (hk1 : isP k1) (h_M : OKb f M) : Sf (mX3_choosePlan 110 k1 M) (pM f) := by
  unfold mX3_choosePlan
  have b_1 : (0 : Int) ≤ (rd M k1 13).toInt ∧ (rd M k1 13).toInt ≤ 255 := h_M.at (bx_P0 hk1)
  refine Sf.b (fun x2_4 e_x2_4 => ?_)
  have d_x2_4 := congrArg Int32.toInt e_x2_4
  refine Sf.c (sX1_lastCode hk1 h_M) (fun r3 p_2 => ?_)
  obtain ⟨p_2a, p_2b⟩ := p_2
  refine Sf.c (sX1_lastGauge hk1 h_M) (fun r6 p_3 => ?_)
  obtain ⟨p_3a, p_3b⟩ := p_3
  refine Sf.b (fun x5_20 e_x5_20 => ?_)
  have d_x5_20 := congrArg Int32.toInt e_x5_20
  have n_4 : (((-1) : Int32)).toInt = -1 := rfl
  refine Sf.i (fun c_5 => ?_) (fun c_5 => ?_)
  · have c_5 := i_eq.mp c_5
    exact (sX3_choosePlan_b34 hk1 h_M ⟨by omega, by omega⟩ ⟨by omega, by omega⟩ ⟨by omega, by omega⟩)
  · have c_5 := i_ne c_5
    have n_6 : ((0 : Int32)).toInt = 0 := rfl
    exact (sX3_choosePlan_b34 hk1 h_M ⟨by omega, by omega⟩ ⟨by omega, by omega⟩ ⟨by omega, by omega⟩)
set_option maxHeartbeats 2000000 in
theorem sX3_prepare_b30 {f : Bx} {k1 : Nat} {M : Mem} (hk1 : isP k1) (h_M : OKb f M) : Sf (mX3_prepare_b30 110 k1 M) (pM f) := by
  unfold mX3_prepare_b30
  refine Sf.m (sX3_reachSets hk1 h_M) (fun M4 _ h_M4 => ?_)
  have h_M4 : OKb f M4 := h_M4
  refine Sf.m (sX3_countOrders hk1 h_M4) (fun M7 _ h_M7 => ?_)
  have h_M7 : OKb f M7 := h_M7
  refine Sf.m (sX3_reckonCosts hk1 h_M7) (fun M10 _ h_M10 => ?_)
  have h_M10 : OKb f M10 := h_M10
  refine Sf.m (sX3_choosePlan hk1 h_M10) (fun M13 _ h_M13 => ?_)
  have h_M13 : OKb f M13 := h_M13
  have n_5 : ((1 : Int32)).toInt = 1 := rfl
  have z_6 : (0 : Int) ≤ ((1 : Int32)).toInt ∧ ((1 : Int32)).toInt ≤ 1 := ⟨by omega, by omega⟩
  refine Sf.b (fun M14 e_M14 => ?_)
  have h_M14 : OKb f M14 := by rw [e_M14]; exact h_M13.put rfl z_6
  exact Sf.ok h_M14
set_option maxHeartbeats 2000000 in
theorem sX3_prepare {f : Bx} {k1 : Nat} {M : Mem} (hk1 : isP k1) (h_M : OKb f M) : Sf (mX3_prepare 110 k1 M) (pM f) := by
  unfold mX3_prepare
  have b_1 : (0 : Int) ≤ (rd M 110 6).toInt ∧ (rd M 110 6).toInt ≤ 1 := h_M.at rfl
  have n_2 : ((0 : Int32)).toInt = 0 := rfl
  refine Sf.i (fun c_3 => ?_) (fun c_3 => ?_)
  · have c_3 := i_eq.mp c_3
    exact (sX3_prepare_b30 hk1 h_M)
  · have c_3 := i_ne c_3
    refine Sf.c (sX1_bendsLike hk1 isP_119 h_M) (fun r17 p_4 => ?_)
    obtain ⟨p_4a, p_4b⟩ := p_4
    refine Sf.i (fun c_5 => ?_) (fun c_5 => ?_)
    · have c_5 := i_eq.mp c_5
      exact (sX3_prepare_b30 hk1 h_M)
    · have c_5 := i_ne c_5
      refine Sf.c (sX1_goesOnLike hk1 isP_119 h_M) (fun r21 p_6 => ?_)
      obtain ⟨p_6a, p_6b⟩ := p_6
      refine Sf.i (fun c_7 => ?_) (fun c_7 => ?_)
      · have c_7 := i_eq.mp c_7
        exact (sX3_prepare_b30 hk1 h_M)
      · have c_7 := i_ne c_7
        exact Sf.ok h_M
set_option maxHeartbeats 2000000 in
theorem sX3_reachesAll {f : Bx} {k1 : Nat} {M : Mem} (hk1 : isP k1) (h_M : OKb f M) : Sf (mX3_reachesAll 110 k1 M) (pMI f (0) (1)) := by
  unfold mX3_reachesAll
  refine Sf.m (sX3_reachSets hk1 h_M) (fun M3 _ h_M3 => ?_)
  have h_M3 : OKb f M3 := h_M3
  refine Sf.c (sX1_allBends hk1 h_M3) (fun r5 p_2 => ?_)
  obtain ⟨p_2a, p_2b⟩ := p_2
  refine Sf.k (ok_in (by omega) (by omega)) ?_
  have b_3 : (0 : Int) ≤ (rd M3 (110 + 18) ((r5).toNatClampNeg)).toInt ∧ (rd M3 (110 + 18) ((r5).toNatClampNeg)).toInt ≤ 1 := h_M3.at rfl
  refine Sf.k (isB_in ⟨by omega, by omega⟩) ?_
  have z_4 : (0 : Int) ≤ ((rd M3 (110 + 18) ((r5).toNatClampNeg))).toInt ∧ ((rd M3 (110 + 18) ((r5).toNatClampNeg))).toInt ≤ 1 := ⟨by omega, by omega⟩
  exact Sf.ok ⟨h_M3, z_4⟩
set_option maxHeartbeats 2000000 in
theorem sX3_ordersFrom_b25 {f : Bx} {M : Mem} {x1 : Int32} {y0 : Int32} (h_M : OKb f M) (hx1 : (0 : Int) ≤ (x1).toInt ∧ (x1).toInt ≤ 255) (hy0 : (0 : Int) ≤ (y0).toInt ∧ (y0).toInt ≤ 1) : Sf (mX3_ordersFrom_b25 110 M x1 y0) (pL) := by
  unfold mX3_ordersFrom_b25
  have n_1 : ((0 : Int32)).toInt = 0 := rfl
  refine Sf.i (fun c_2 => ?_) (fun c_2 => ?_)
  · have c_2 := i_eq.mp c_2
    exact Sf.ok trivial
  · have c_2 := i_ne c_2
    refine Sf.k (ok_in (by omega) (by omega)) ?_
    exact Sf.ok trivial
set_option maxHeartbeats 2000000 in
theorem sX3_ordersFrom_b24 {f : Bx} {M : Mem} {x1 : Int32} (h_M : OKb f M) (hx1 : (0 : Int) ≤ (x1).toInt ∧ (x1).toInt ≤ 255) : Sf (mX3_ordersFrom_b24 110 M x1) (pL) := by
  unfold mX3_ordersFrom_b24
  have n_1 : ((0 : Int32)).toInt = 0 := rfl
  exact (sX3_ordersFrom_b25 h_M ⟨by omega, by omega⟩ ⟨by omega, by omega⟩)
set_option maxHeartbeats 2000000 in
theorem sX3_ordersFrom {f : Bx} {x1 : Int32} {M : Mem} (h_M : OKb f M) (hx1 : (0 : Int) ≤ (x1).toInt ∧ (x1).toInt ≤ 255) : Sf (mX3_ordersFrom 110 x1 M) (pL) := by
  unfold mX3_ordersFrom
  have n_1 : ((0 : Int32)).toInt = 0 := rfl
  refine Sf.i (fun c_2 => ?_) (fun c_2 => ?_)
  · have c_2 := i_lt.mp c_2
    exfalso; omega
  · have c_2 := i_nlt c_2
    have n_3 : ((256 : Int32)).toInt = 256 := rfl
    refine Sf.i (fun c_4 => ?_) (fun c_4 => ?_)
    · have c_4 := i_le.mp c_4
      exfalso; omega
    · have c_4 := i_nle c_4
      refine Sf.k (ok_in (by omega) (by omega)) ?_
      have b_5 : (0 : Int) ≤ (rd M (110 + 18) ((x1).toNatClampNeg)).toInt ∧ (rd M (110 + 18) ((x1).toNatClampNeg)).toInt ≤ 1 := h_M.at rfl
      refine Sf.i (fun c_6 => ?_) (fun c_6 => ?_)
      · have c_6 := i_eq.mp c_6
        exact (sX3_ordersFrom_b24 h_M ⟨by omega, by omega⟩)
      · have c_6 := i_ne c_6
        have n_7 : ((1 : Int32)).toInt = 1 := rfl
        exact (sX3_ordersFrom_b25 h_M ⟨by omega, by omega⟩ ⟨by omega, by omega⟩)
set_option maxHeartbeats 2000000 in
theorem sX3_stepsAtTheEnd_b68 {f : Bx} {k1 : Nat} {M : Mem} {ih10 : Int32 → Int32 → Int32 → Option Int32} {x2 : Int32} {x3 : Int32} {x4 : Int32} {d10 : Nat} (hk1 : isP k1) (h_M : OKb f M) (hx2 : (0 : Int) ≤ (x2).toInt ∧ (x2).toInt ≤ 255) (hx4 : (0 : Int) ≤ (x4).toInt ∧ (x4).toInt ≤ 7) (hih10 : ∀ (yx2 : Int32) (yx3 : Int32) (yx4 : Int32), ((0 : Int) ≤ (yx2).toInt ∧ (yx2).toInt ≤ 255) → ((0 : Int) ≤ (yx4).toInt ∧ (yx4).toInt ≤ 8) → 8 - (yx4).toInt < d10 → Sf (ih10 yx2 yx3 yx4) (pI (-2147483648) (2147483647))) (hmu10 : 8 - (x4).toInt ≤ d10) : Sf (mX3_stepsAtTheEnd_b68 110 k1 M ih10 x2 x3 x4) (pI (-2147483648) (2147483647)) := by
  unfold mX3_stepsAtTheEnd_b68
  have n_1 : ((1 : Int32)).toInt = 1 := rfl
  try have a_2 : ((x4 + (1 : Int32))).toInt = (x4).toInt + ((1 : Int32)).toInt := i_add (by omega) (by omega)
  refine Sf.b (fun x4_68 e_x4_68 => ?_)
  have d_x4_68 := congrArg Int32.toInt e_x4_68
  exact (hih10 _ _ _ ⟨by omega, by omega⟩ ⟨by omega, by omega⟩ (by omega))
set_option maxHeartbeats 2000000 in
theorem sX3_stepsAtTheEnd_b10 {f : Bx} {k1 : Nat} {M : Mem} {ih10 : Int32 → Int32 → Int32 → Option Int32} {x2 : Int32} {x3 : Int32} {x4 : Int32} {d10 : Nat} (hk1 : isP k1) (h_M : OKb f M) (hx2 : (0 : Int) ≤ (x2).toInt ∧ (x2).toInt ≤ 255) (hx4 : (0 : Int) ≤ (x4).toInt ∧ (x4).toInt ≤ 8) (hih10 : ∀ (yx2 : Int32) (yx3 : Int32) (yx4 : Int32), ((0 : Int) ≤ (yx2).toInt ∧ (yx2).toInt ≤ 255) → ((0 : Int) ≤ (yx4).toInt ∧ (yx4).toInt ≤ 8) → 8 - (yx4).toInt < d10 → Sf (ih10 yx2 yx3 yx4) (pI (-2147483648) (2147483647))) (hmu10 : 8 - (x4).toInt ≤ d10) : Sf (mX3_stepsAtTheEnd_b10 110 k1 M ih10 x2 x3 x4) (pI (-2147483648) (2147483647)) := by
  unfold mX3_stepsAtTheEnd_b10
  refine Sf.c (sX1_bendCount hk1 h_M) (fun r5 p_1 => ?_)
  obtain ⟨p_1a, p_1b⟩ := p_1
  refine Sf.i (fun c_2 => ?_) (fun c_2 => ?_)
  · have c_2 := i_le.mp c_2
    exact Sf.ok (i_rng _)
  · have c_2 := i_nle c_2
    have n_3 : ((8 : Int32)).toInt = 8 := rfl
    refine Sf.i (fun c_4 => ?_) (fun c_4 => ?_)
    · have c_4 := i_le.mp c_4
      exfalso; omega
    · have c_4 := i_nle c_4
      try have a_5 : 0 < (((1 : Int32) <<< (x4 &&& 31))).toInt ∧ (((1 : Int32) <<< (x4 &&& 31))).toInt ≤ 128 := i_shl 7 (by decide) ⟨by omega, by omega⟩
      have n_6 : (((-1) : Int32)).toInt = -1 := rfl
      try have a_7 := i_and (a := x2) (b := (((1 : Int32) <<< (x4 &&& 31)) ^^^ ((-1) : Int32))) (by omega)
      refine Sf.b (fun x5_34 e_x5_34 => ?_)
      have d_x5_34 := congrArg Int32.toInt e_x5_34
      have b_8 : (0 : Int) ≤ (rd M k1 13).toInt ∧ (rd M k1 13).toInt ≤ 255 := h_M.at (bx_P0 hk1)
      try have a_9 := i_shr (a := (rd M k1 13)) (b := x4) (by omega)
      have n_10 : ((1 : Int32)).toInt = 1 := rfl
      try have a_11 := i_and (a := ((rd M k1 13) >>> (x4 &&& 31))) (b := (1 : Int32)) (by omega)
      try have a_12 := i_andr (a := ((rd M k1 13) >>> (x4 &&& 31))) (b := (1 : Int32)) (by omega)
      have n_13 : ((0 : Int32)).toInt = 0 := rfl
      refine Sf.i (fun c_14 => ?_) (fun c_14 => ?_)
      · have c_14 := i_eq.mp c_14
        refine Sf.k (ok_in (by omega) (by omega)) ?_
        have b_15 : (0 : Int) ≤ (rd M (110 + 18) ((x5_34).toNatClampNeg)).toInt ∧ (rd M (110 + 18) ((x5_34).toNatClampNeg)).toInt ≤ 1 := h_M.at rfl
        refine Sf.i (fun c_16 => ?_) (fun c_16 => ?_)
        · have c_16 := i_eq.mp c_16
          exact (sX3_stepsAtTheEnd_b68 hk1 h_M ⟨by omega, by omega⟩ ⟨by omega, by omega⟩ hih10 (by omega))
        · have c_16 := i_ne c_16
          refine Sf.k (ok_in (by omega) (by omega)) ?_
          have b_17 : (-1 : Int) ≤ (rd M (110 + 17) ((x5_34).toNatClampNeg)).toInt ∧ (rd M (110 + 17) ((x5_34).toNatClampNeg)).toInt ≤ 2147483647 := h_M.at rfl
          refine Sf.b (fun x3_67 e_x3_67 => ?_)
          have d_x3_67 := congrArg Int32.toInt e_x3_67
          exact (sX3_stepsAtTheEnd_b68 hk1 h_M ⟨by omega, by omega⟩ ⟨by omega, by omega⟩ hih10 (by omega))
      · have c_14 := i_ne c_14
        exact (sX3_stepsAtTheEnd_b68 hk1 h_M ⟨by omega, by omega⟩ ⟨by omega, by omega⟩ hih10 (by omega))
theorem sX3_stepsAtTheEnd_l10_n {f : Bx} {k1 : Nat} (hk1 : isP k1) {M : Mem}  (h_M : OKb f M)   : ∀ (n : Nat) (x2 : Int32) (x3 : Int32) (x4 : Int32) (hx2 : (0 : Int) ≤ (x2).toInt ∧ (x2).toInt ≤ 255) (hx4 : (0 : Int) ≤ (x4).toInt ∧ (x4).toInt ≤ 8)   (hmu : 8 - (x4).toInt < n), Sf (mX3_stepsAtTheEnd_l10 110 k1 M n x2 x3 x4) (pI (-2147483648) (2147483647)) := by
  intro n
  induction n with
  | zero => intro x2 x3 x4 hx2 hx4 hmu; exfalso; omega
  | succ n IH => intro x2 x3 x4 hx2 hx4 hmu; exact sX3_stepsAtTheEnd_b10 hk1 h_M hx2 hx4    IH (by omega)
theorem sX3_stepsAtTheEnd_l10 {f : Bx} {k1 : Nat} (hk1 : isP k1) {M : Mem} {x2 : Int32} {x3 : Int32} {x4 : Int32}  (h_M : OKb f M) (hx2 : (0 : Int) ≤ (x2).toInt ∧ (x2).toInt ≤ 255) (hx4 : (0 : Int) ≤ (x4).toInt ∧ (x4).toInt ≤ 8)    (hmu : 8 - (x4).toInt < 5000) : Sf (mX3_stepsAtTheEnd_l10 110 k1 M 5000 x2 x3 x4) (pI (-2147483648) (2147483647)) :=
  sX3_stepsAtTheEnd_l10_n hk1 h_M   5000 _ _ _ hx2 hx4   hmu
set_option maxHeartbeats 2000000 in
theorem sX3_stepsAtTheEnd {f : Bx} {k1 : Nat} {M : Mem} (hk1 : isP k1) (h_M : OKb f M) : Sf (mX3_stepsAtTheEnd 110 k1 M) (pI (-2147483648) (2147483647)) := by
  unfold mX3_stepsAtTheEnd
  refine Sf.c (sX1_allBends hk1 h_M) (fun r2 p_1 => ?_)
  obtain ⟨p_1a, p_1b⟩ := p_1
  have n_2 : ((0 : Int32)).toInt = 0 := rfl
  exact (sX3_stepsAtTheEnd_l10 hk1 h_M ⟨by omega, by omega⟩ ⟨by omega, by omega⟩ (by omega))
set_option maxHeartbeats 2000000 in
theorem sX3_mostBendsFrom_b29 {f : Bx} {k1 : Nat} {M : Mem} {ih4 : Int32 → Int32 → Option Int32} {x2 : Int32} {x3 : Int32} {d4 : Nat} (hk1 : isP k1) (h_M : OKb f M) (hx2 : (0 : Int) ≤ (x2).toInt ∧ (x2).toInt ≤ 63) (hx3 : (0 : Int) ≤ (x3).toInt ∧ (x3).toInt ≤ 255) (hih4 : ∀ (yx2 : Int32) (yx3 : Int32), ((0 : Int) ≤ (yx2).toInt ∧ (yx2).toInt ≤ 63) → ((0 : Int) ≤ (yx3).toInt ∧ (yx3).toInt ≤ 256) → 256 - (yx3).toInt < d4 → Sf (ih4 yx2 yx3) (pI (-63) (63))) (hmu4 : 256 - (x3).toInt ≤ d4) : Sf (mX3_mostBendsFrom_b29 110 k1 M ih4 x2 x3) (pI (-63) (63)) := by
  unfold mX3_mostBendsFrom_b29
  have n_1 : ((1 : Int32)).toInt = 1 := rfl
  try have a_2 : ((x3 + (1 : Int32))).toInt = (x3).toInt + ((1 : Int32)).toInt := i_add (by omega) (by omega)
  refine Sf.b (fun x3_29 e_x3_29 => ?_)
  have d_x3_29 := congrArg Int32.toInt e_x3_29
  exact (hih4 _ _ ⟨by omega, by omega⟩ ⟨by omega, by omega⟩ (by omega))
set_option maxHeartbeats 2000000 in
theorem sX3_mostBendsFrom_b4 {f : Bx} {k1 : Nat} {M : Mem} {ih4 : Int32 → Int32 → Option Int32} {x2 : Int32} {x3 : Int32} {d4 : Nat} (hk1 : isP k1) (h_M : OKb f M) (hx2 : (0 : Int) ≤ (x2).toInt ∧ (x2).toInt ≤ 63) (hx3 : (0 : Int) ≤ (x3).toInt ∧ (x3).toInt ≤ 256) (hih4 : ∀ (yx2 : Int32) (yx3 : Int32), ((0 : Int) ≤ (yx2).toInt ∧ (yx2).toInt ≤ 63) → ((0 : Int) ≤ (yx3).toInt ∧ (yx3).toInt ≤ 256) → 256 - (yx3).toInt < d4 → Sf (ih4 yx2 yx3) (pI (-63) (63))) (hmu4 : 256 - (x3).toInt ≤ d4) : Sf (mX3_mostBendsFrom_b4 110 k1 M ih4 x2 x3) (pI (-63) (63)) := by
  unfold mX3_mostBendsFrom_b4
  have n_1 : ((256 : Int32)).toInt = 256 := rfl
  refine Sf.i (fun c_2 => ?_) (fun c_2 => ?_)
  · have c_2 := i_le.mp c_2
    have b_3 : (0 : Int) ≤ (rd M k1 13).toInt ∧ (rd M k1 13).toInt ≤ 255 := h_M.at (bx_P0 hk1)
    refine Sf.c (sJ6_bitCount_0f7a4 h_M ⟨by omega, by omega⟩) (fun r3 p_4 => ?_)
    obtain ⟨p_4a, p_4b⟩ := p_4
    try have a_5 : ((x2 - r3)).toInt = (x2).toInt - (r3).toInt := i_sub (by omega) (by omega)
    have z_6 : (-63 : Int) ≤ ((x2 - r3)).toInt ∧ ((x2 - r3)).toInt ≤ 63 := ⟨by omega, by omega⟩
    exact Sf.ok z_6
  · have c_2 := i_nle c_2
    refine Sf.k (ok_in (by omega) (by omega)) ?_
    have b_7 : (0 : Int) ≤ (rd M (110 + 18) ((x3).toNatClampNeg)).toInt ∧ (rd M (110 + 18) ((x3).toNatClampNeg)).toInt ≤ 1 := h_M.at rfl
    have n_8 : ((0 : Int32)).toInt = 0 := rfl
    refine Sf.i (fun c_9 => ?_) (fun c_9 => ?_)
    · have c_9 := i_eq.mp c_9
      exact (sX3_mostBendsFrom_b29 hk1 h_M ⟨by omega, by omega⟩ ⟨by omega, by omega⟩ hih4 (by omega))
    · have c_9 := i_ne c_9
      refine Sf.c (sJ6_bitCount_0f7a4 h_M ⟨by omega, by omega⟩) (fun r9 p_10 => ?_)
      obtain ⟨p_10a, p_10b⟩ := p_10
      have m_11 := i_max (a := x2) (b := r9)
      refine Sf.b (fun x2_28 e_x2_28 => ?_)
      have d_x2_28 := congrArg Int32.toInt e_x2_28
      exact (sX3_mostBendsFrom_b29 hk1 h_M ⟨by omega, by omega⟩ ⟨by omega, by omega⟩ hih4 (by omega))
theorem sX3_mostBendsFrom_l4_n {f : Bx} {k1 : Nat} (hk1 : isP k1) {M : Mem}  (h_M : OKb f M)   : ∀ (n : Nat) (x2 : Int32) (x3 : Int32) (hx2 : (0 : Int) ≤ (x2).toInt ∧ (x2).toInt ≤ 63) (hx3 : (0 : Int) ≤ (x3).toInt ∧ (x3).toInt ≤ 256)   (hmu : 256 - (x3).toInt < n), Sf (mX3_mostBendsFrom_l4 110 k1 M n x2 x3) (pI (-63) (63)) := by
  intro n
  induction n with
  | zero => intro x2 x3 hx2 hx3 hmu; exfalso; omega
  | succ n IH => intro x2 x3 hx2 hx3 hmu; exact sX3_mostBendsFrom_b4 hk1 h_M hx2 hx3    IH (by omega)
theorem sX3_mostBendsFrom_l4 {f : Bx} {k1 : Nat} (hk1 : isP k1) {M : Mem} {x2 : Int32} {x3 : Int32}  (h_M : OKb f M) (hx2 : (0 : Int) ≤ (x2).toInt ∧ (x2).toInt ≤ 63) (hx3 : (0 : Int) ≤ (x3).toInt ∧ (x3).toInt ≤ 256)    (hmu : 256 - (x3).toInt < 5000) : Sf (mX3_mostBendsFrom_l4 110 k1 M 5000 x2 x3) (pI (-63) (63)) :=
  sX3_mostBendsFrom_l4_n hk1 h_M   5000 _ _ hx2 hx3   hmu
set_option maxHeartbeats 2000000 in
theorem sX3_mostBendsFrom {f : Bx} {k1 : Nat} {M : Mem} (hk1 : isP k1) (h_M : OKb f M) : Sf (mX3_mostBendsFrom 110 k1 M) (pI (-63) (63)) := by
  unfold mX3_mostBendsFrom
  have n_1 : ((0 : Int32)).toInt = 0 := rfl
  exact (sX3_mostBendsFrom_l4 hk1 h_M ⟨by omega, by omega⟩ ⟨by omega, by omega⟩ (by omega))
end
/-! part 55.s4 -/
section
set_option maxHeartbeats 2000000 in
theorem sX5_toolNumber_b2 {f : Bx} {k0 : Nat} {M : Mem} {ih2 : Int32 → Option Int32} {x1 : Int32} {d2 : Nat} (h_M : OKb f M) (hx1 : (0 : Int) ≤ (x1).toInt ∧ (x1).toInt ≤ 5) (hih2 : ∀ (yx1 : Int32), ((0 : Int) ≤ (yx1).toInt ∧ (yx1).toInt ≤ 5) → 5 - (yx1).toInt < d2 → Sf (ih2 yx1) (pI (-1) (4))) (hmu2 : 5 - (x1).toInt ≤ d2) : Sf (mX5_toolNumber_b2 k0 M ih2 x1) (pI (-1) (4)) := by
  unfold mX5_toolNumber_b2
  have n_1 : ((5 : Int32)).toInt = 5 := rfl
  refine Sf.i (fun c_2 => ?_) (fun c_2 => ?_)
  · have c_2 := i_le.mp c_2
    have n_3 : (((-1) : Int32)).toInt = -1 := rfl
    have z_4 : (-1 : Int) ≤ (((-1) : Int32)).toInt ∧ (((-1) : Int32)).toInt ≤ 4 := ⟨by omega, by omega⟩
    exact Sf.ok z_4
  · have c_2 := i_nle c_2
    refine Sf.c sX5_ofTool (fun r3 p_5 => ?_)
    have p_5 : r3 = none ∨ ∃ w, r3 = some w ∧ 5 ≤ w ∧ w ≤ 9 ∧ (w : Int) = 5 + (x1).toInt := p_5
    refine Sf.o (fun c_6 => ?_) (fun w5 c_6 => ?_)
    · skip
      have n_7 : ((1 : Int32)).toInt = 1 := rfl
      try have a_8 : ((x1 + (1 : Int32))).toInt = (x1).toInt + ((1 : Int32)).toInt := i_add (by omega) (by omega)
      refine Sf.b (fun x1_17 e_x1_17 => ?_)
      have d_x1_17 := congrArg Int32.toInt e_x1_17
      exact (hih2 _ ⟨by omega, by omega⟩ (by omega))
    · skip
      have p_5 : 5 ≤ w5 ∧ w5 ≤ 9 ∧ ((w5 : Nat) : Int) = 5 + _ := of_rel p_5 c_6
      refine Sf.k (decide_eq_true (by omega)) ?_
      refine Sf.i (fun c_9 => ?_) (fun c_9 => ?_)
      · skip
        have z_10 : (-1 : Int) ≤ (x1).toInt ∧ (x1).toInt ≤ 4 := ⟨by omega, by omega⟩
        exact Sf.ok z_10
      · skip
        have n_11 : ((1 : Int32)).toInt = 1 := rfl
        try have a_12 : ((x1 + (1 : Int32))).toInt = (x1).toInt + ((1 : Int32)).toInt := i_add (by omega) (by omega)
        refine Sf.b (fun x1_17 e_x1_17 => ?_)
        have d_x1_17 := congrArg Int32.toInt e_x1_17
        exact (hih2 _ ⟨by omega, by omega⟩ (by omega))
theorem sX5_toolNumber_l2_n {f : Bx} {k0 : Nat} {M : Mem}  (h_M : OKb f M)   : ∀ (n : Nat) (x1 : Int32) (hx1 : (0 : Int) ≤ (x1).toInt ∧ (x1).toInt ≤ 5)   (hmu : 5 - (x1).toInt < n), Sf (mX5_toolNumber_l2 k0 M n x1) (pI (-1) (4)) := by
  intro n
  induction n with
  | zero => intro x1 hx1 hmu; exfalso; omega
  | succ n IH => intro x1 hx1 hmu; exact sX5_toolNumber_b2  h_M hx1    IH (by omega)
theorem sX5_toolNumber_l2 {f : Bx} {k0 : Nat} {M : Mem} {x1 : Int32}  (h_M : OKb f M) (hx1 : (0 : Int) ≤ (x1).toInt ∧ (x1).toInt ≤ 5)    (hmu : 5 - (x1).toInt < 5000) : Sf (mX5_toolNumber_l2 k0 M 5000 x1) (pI (-1) (4)) :=
  sX5_toolNumber_l2_n  h_M   5000 _ hx1   hmu
set_option maxHeartbeats 2000000 in
theorem sX5_toolNumber {f : Bx} {k0 : Nat} {M : Mem} (h_M : OKb f M) : Sf (mX5_toolNumber k0 M) (pI (-1) (4)) := by
  unfold mX5_toolNumber
  have n_1 : ((0 : Int32)).toInt = 0 := rfl
  exact (sX5_toolNumber_l2 h_M ⟨by omega, by omega⟩ (by omega))
set_option maxHeartbeats 2000000 in
theorem sX5_isBend_b14 {f : Bx} {k0 : Nat} {M : Mem} (h_M : OKb f M) : Sf (mX5_isBend_b14 k0 M) (pI (0) (1)) := by
  unfold mX5_isBend_b14
  have n_1 : ((1 : Int32)).toInt = 1 := rfl
  have z_2 : (0 : Int) ≤ ((1 : Int32)).toInt ∧ ((1 : Int32)).toInt ≤ 1 := ⟨by omega, by omega⟩
  exact Sf.ok z_2
set_option maxHeartbeats 2000000 in
theorem sX5_isBend {f : Bx} {k0 : Nat} {M : Mem} (h_M : OKb f M) : Sf (mX5_isBend k0 M) (pI (0) (1)) := by
  unfold mX5_isBend
  refine Sf.i (fun c_1 => ?_) (fun c_1 => ?_)
  · skip
    exact (sX5_isBend_b14 h_M)
  · skip
    refine Sf.i (fun c_2 => ?_) (fun c_2 => ?_)
    · skip
      exact (sX5_isBend_b14 h_M)
    · skip
      have n_3 : ((0 : Int32)).toInt = 0 := rfl
      have z_4 : (0 : Int) ≤ ((0 : Int32)).toInt ∧ ((0 : Int32)).toInt ≤ 1 := ⟨by omega, by omega⟩
      exact Sf.ok z_4
set_option maxHeartbeats 2000000 in
theorem sX4_isSpace_b12 {f : Bx} {M : Mem} (h_M : OKb f M) : Sf (mX4_isSpace_b12 M) (pI (0) (1)) := by
  unfold mX4_isSpace_b12
  have n_1 : ((1 : Int32)).toInt = 1 := rfl
  have z_2 : (0 : Int) ≤ ((1 : Int32)).toInt ∧ ((1 : Int32)).toInt ≤ 1 := ⟨by omega, by omega⟩
  exact Sf.ok z_2
set_option maxHeartbeats 2000000 in
theorem sX4_isSpace {f : Bx} {x0 : Int32} {M : Mem} (h_M : OKb f M) (hx0 : (-128 : Int) ≤ (x0).toInt ∧ (x0).toInt ≤ 127) : Sf (mX4_isSpace x0 M) (pI (0) (1)) := by
  unfold mX4_isSpace
  have n_1 : ((32 : Int32)).toInt = 32 := rfl
  refine Sf.i (fun c_2 => ?_) (fun c_2 => ?_)
  · have c_2 := i_eq.mp c_2
    exact (sX4_isSpace_b12 h_M)
  · have c_2 := i_ne c_2
    have n_3 : ((10 : Int32)).toInt = 10 := rfl
    refine Sf.i (fun c_4 => ?_) (fun c_4 => ?_)
    · have c_4 := i_eq.mp c_4
      exact (sX4_isSpace_b12 h_M)
    · have c_4 := i_ne c_4
      have n_5 : ((0 : Int32)).toInt = 0 := rfl
      have z_6 : (0 : Int) ≤ ((0 : Int32)).toInt ∧ ((0 : Int32)).toInt ≤ 1 := ⟨by omega, by omega⟩
      exact Sf.ok z_6
set_option maxHeartbeats 2000000 in
theorem sX4_isLetter {f : Bx} {x0 : Int32} {M : Mem} (h_M : OKb f M) (hx0 : (-128 : Int) ≤ (x0).toInt ∧ (x0).toInt ≤ 127) : Sf (mX4_isLetter x0 M) (pI (0) (1)) := by
  unfold mX4_isLetter
  have n_1 : ((97 : Int32)).toInt = 97 := rfl
  refine Sf.i (fun c_2 => ?_) (fun c_2 => ?_)
  · have c_2 := i_lt.mp c_2
    have n_3 : ((0 : Int32)).toInt = 0 := rfl
    have z_4 : (0 : Int) ≤ ((0 : Int32)).toInt ∧ ((0 : Int32)).toInt ≤ 1 := ⟨by omega, by omega⟩
    exact Sf.ok z_4
  · have c_2 := i_nlt c_2
    have n_5 : ((122 : Int32)).toInt = 122 := rfl
    refine Sf.i (fun c_6 => ?_) (fun c_6 => ?_)
    · have c_6 := i_lt.mp c_6
      have n_7 : ((0 : Int32)).toInt = 0 := rfl
      have z_8 : (0 : Int) ≤ ((0 : Int32)).toInt ∧ ((0 : Int32)).toInt ≤ 1 := ⟨by omega, by omega⟩
      exact Sf.ok z_8
    · have c_6 := i_nlt c_6
      have n_9 : ((1 : Int32)).toInt = 1 := rfl
      have z_10 : (0 : Int) ≤ ((1 : Int32)).toInt ∧ ((1 : Int32)).toInt ≤ 1 := ⟨by omega, by omega⟩
      exact Sf.ok z_10
set_option maxHeartbeats 2000000 in
theorem sX4_takeWord_b39 {g : (Nat → Int × Int) × (Nat → Int × Int)} {M : Mem} (h_M : OKb (true, g) M) : Sf (mX4_takeWord_b39 2 M) (pM (true, g)) := by
  unfold mX4_takeWord_b39
  have n_1 : ((6 : Int32)).toInt = 6 := rfl
  have b_2 : (0 : Int) ≤ (rd M 2 5).toInt ∧ (rd M 2 5).toInt ≤ 600 := h_M.at rfl
  have b_3 : (0 : Int) ≤ (rd M 2 4).toInt ∧ (rd M 2 4).toInt ≤ 600 := h_M.at rfl
  try have a_4 : (((rd M 2 5) - (rd M 2 4))).toInt = ((rd M 2 5)).toInt - ((rd M 2 4)).toInt := i_sub (by omega) (by omega)
  refine Sf.i (fun c_5 => ?_) (fun c_5 => ?_)
  · have c_5 := i_lt.mp c_5
    have n_6 : ((1 : Int32)).toInt = 1 := rfl
    have z_7 : (0 : Int) ≤ ((1 : Int32)).toInt ∧ ((1 : Int32)).toInt ≤ 4 := ⟨by omega, by omega⟩
    refine Sf.b (fun M3 e_M3 => ?_)
    have h_M3 : OKb (true, g) M3 := by rw [e_M3]; exact h_M.put rfl z_7
    exact Sf.ok h_M3
  · have c_5 := i_nlt c_5
    have n_8 : ((2 : Int32)).toInt = 2 := rfl
    have z_9 : (0 : Int) ≤ ((2 : Int32)).toInt ∧ ((2 : Int32)).toInt ≤ 4 := ⟨by omega, by omega⟩
    refine Sf.b (fun M5 e_M5 => ?_)
    have h_M5 : OKb (true, g) M5 := by rw [e_M5]; exact h_M.put rfl z_9
    exact Sf.ok h_M5
set_option maxHeartbeats 2000000 in
theorem sX4_takeWord_b0 {g : (Nat → Int × Int) × (Nat → Int × Int)} {ih0 : Mem → Option (Mem × Unit)} {M : Mem} {d0 : Nat} (h_M : OKb (true, g) M) (hih0 : ∀  (M : Mem), OKb (true, g) M → 600 - (rd M 2 5).toInt < d0 → Sf (ih0  M) (pM (true, g))) (hmu0 : 600 - (rd M 2 5).toInt ≤ d0) : Sf (mX4_takeWord_b0 2 ih0 M) (pM (true, g)) := by
  unfold mX4_takeWord_b0
  have b_1 : (0 : Int) ≤ (rd M 2 3).toInt ∧ (rd M 2 3).toInt ≤ 600 := h_M.at rfl
  have b_2 : (0 : Int) ≤ (rd M 2 5).toInt ∧ (rd M 2 5).toInt ≤ 600 := h_M.at rfl
  refine Sf.i (fun c_3 => ?_) (fun c_3 => ?_)
  · have c_3 := i_le.mp c_3
    exact (sX4_takeWord_b39 h_M)
  · have c_3 := i_nle c_3
    have b_4 : (1 : Int) ≤ (rd M 2 2).toInt ∧ (rd M 2 2).toInt ≤ 1 := h_M.at rfl
    have n_5 : ((1 : Int32)).toInt = 1 := rfl
    refine Sf.k (decide_eq_true (i_eq.mpr (by omega))) ?_
    refine Sf.k (ok_in (by omega) (by omega)) ?_
    have b_6 : (-128 : Int) ≤ (rd M 1 (((rd M 2 5)).toNatClampNeg)).toInt ∧ (rd M 1 (((rd M 2 5)).toNatClampNeg)).toInt ≤ 127 := h_M.at rfl
    refine Sf.c (sX4_isLetter h_M ⟨by omega, by omega⟩) (fun r10 p_7 => ?_)
    obtain ⟨p_7a, p_7b⟩ := p_7
    have n_8 : ((0 : Int32)).toInt = 0 := rfl
    refine Sf.i (fun c_9 => ?_) (fun c_9 => ?_)
    · have c_9 := i_eq.mp c_9
      exact (sX4_takeWord_b39 h_M)
    · have c_9 := i_ne c_9
      have n_10 : ((1 : Int32)).toInt = 1 := rfl
      try have a_11 : (((rd M 2 5) + (1 : Int32))).toInt = ((rd M 2 5)).toInt + ((1 : Int32)).toInt := i_add (by omega) (by omega)
      have z_12 : (0 : Int) ≤ (((rd M 2 5) + (1 : Int32))).toInt ∧ (((rd M 2 5) + (1 : Int32))).toInt ≤ 600 := ⟨by omega, by omega⟩
      refine Sf.b (fun M13 e_M13 => ?_)
      have h_M13 : OKb (true, g) M13 := by rw [e_M13]; exact h_M.put rfl z_12
      have w_13 : (rd M13 2 5).toInt = (((rd M 2 5) + (1 : Int32))).toInt := by rw [e_M13, rd_we]
      exact (hih0 _ h_M13 (by omega))
theorem sX4_takeWord_l0_n {g : (Nat → Int × Int) × (Nat → Int × Int)}    : ∀ (n : Nat)  (M : Mem) (h_M : OKb (true, g) M)     (hmu : 600 - (rd M 2 5).toInt < n), Sf (mX4_takeWord_l0 2 n  M) (pM (true, g)) := by
  intro n
  induction n with
  | zero => intro M h_M hmu; have bz0 : (0 : Int) ≤ (rd M 2 5).toInt ∧ (rd M 2 5).toInt ≤ 600 := h_M.at rfl; exfalso; omega
  | succ n IH => intro M h_M hmu; exact sX4_takeWord_b0  h_M     IH (by omega)
theorem sX4_takeWord_l0 {g : (Nat → Int × Int) × (Nat → Int × Int)}   {M : Mem}  (h_M : OKb (true, g) M)     (hmu : 600 - (rd M 2 5).toInt < 5000) : Sf (mX4_takeWord_l0 2 5000  M) (pM (true, g)) :=
  sX4_takeWord_l0_n   5000  M h_M     hmu
set_option maxHeartbeats 2000000 in
theorem sX4_takeWord {g : (Nat → Int × Int) × (Nat → Int × Int)} {M : Mem} (h_M : OKb (true, g) M) : Sf (mX4_takeWord 2 M) (pM (true, g)) := by
  unfold mX4_takeWord
  have b_1 : (0 : Int) ≤ (rd M 2 5).toInt ∧ (rd M 2 5).toInt ≤ 600 := h_M.at rfl
  exact (sX4_takeWord_l0 h_M (by omega))
set_option maxHeartbeats 2000000 in
theorem sX4_isDigit {f : Bx} {x0 : Int32} {M : Mem} (h_M : OKb f M) (hx0 : (-128 : Int) ≤ (x0).toInt ∧ (x0).toInt ≤ 127) : Sf (mX4_isDigit x0 M) (pI (0) (1)) := by
  unfold mX4_isDigit
  have n_1 : ((48 : Int32)).toInt = 48 := rfl
  refine Sf.i (fun c_2 => ?_) (fun c_2 => ?_)
  · have c_2 := i_lt.mp c_2
    have n_3 : ((0 : Int32)).toInt = 0 := rfl
    have z_4 : (0 : Int) ≤ ((0 : Int32)).toInt ∧ ((0 : Int32)).toInt ≤ 1 := ⟨by omega, by omega⟩
    exact Sf.ok z_4
  · have c_2 := i_nlt c_2
    have n_5 : ((57 : Int32)).toInt = 57 := rfl
    refine Sf.i (fun c_6 => ?_) (fun c_6 => ?_)
    · have c_6 := i_lt.mp c_6
      have n_7 : ((0 : Int32)).toInt = 0 := rfl
      have z_8 : (0 : Int) ≤ ((0 : Int32)).toInt ∧ ((0 : Int32)).toInt ≤ 1 := ⟨by omega, by omega⟩
      exact Sf.ok z_8
    · have c_6 := i_nlt c_6
      have n_9 : ((1 : Int32)).toInt = 1 := rfl
      have z_10 : (0 : Int) ≤ ((1 : Int32)).toInt ∧ ((1 : Int32)).toInt ≤ 1 := ⟨by omega, by omega⟩
      exact Sf.ok z_10
set_option maxHeartbeats 2000000 in
theorem sX4_takeNumber_b76 {g : (Nat → Int × Int) × (Nat → Int × Int)} {M : Mem} (h_M : OKb (true, g) M) : Sf (mX4_takeNumber_b76 2 M) (pM (true, g)) := by
  unfold mX4_takeNumber_b76
  have n_1 : ((4 : Int32)).toInt = 4 := rfl
  have b_2 : (0 : Int) ≤ (rd M 2 5).toInt ∧ (rd M 2 5).toInt ≤ 600 := h_M.at rfl
  have b_3 : (0 : Int) ≤ (rd M 2 4).toInt ∧ (rd M 2 4).toInt ≤ 600 := h_M.at rfl
  try have a_4 : (((rd M 2 5) - (rd M 2 4))).toInt = ((rd M 2 5)).toInt - ((rd M 2 4)).toInt := i_sub (by omega) (by omega)
  refine Sf.i (fun c_5 => ?_) (fun c_5 => ?_)
  · have c_5 := i_lt.mp c_5
    have n_6 : ((1 : Int32)).toInt = 1 := rfl
    have z_7 : (0 : Int) ≤ ((1 : Int32)).toInt ∧ ((1 : Int32)).toInt ≤ 4 := ⟨by omega, by omega⟩
    refine Sf.b (fun M3 e_M3 => ?_)
    have h_M3 : OKb (true, g) M3 := by rw [e_M3]; exact h_M.put rfl z_7
    exact Sf.ok h_M3
  · have c_5 := i_nlt c_5
    have n_8 : ((3 : Int32)).toInt = 3 := rfl
    have z_9 : (0 : Int) ≤ ((3 : Int32)).toInt ∧ ((3 : Int32)).toInt ≤ 4 := ⟨by omega, by omega⟩
    refine Sf.b (fun M5 e_M5 => ?_)
    have h_M5 : OKb (true, g) M5 := by rw [e_M5]; exact h_M.put rfl z_9
    exact Sf.ok h_M5
set_option maxHeartbeats 2000000 in
theorem sX4_takeNumber_b63 {g : (Nat → Int × Int) × (Nat → Int × Int)} {ih0 : Mem → Option (Mem × Unit)} {M : Mem} {d0 : Nat} (h_M : OKb (true, g) M) (he0 : (1 : Int) ≤ (rd M 2 2).toInt ∧ (rd M 2 2).toInt ≤ 1) (he1 : (1 : Int) ≤ (rd M 2 3).toInt ∧ (rd M 2 3).toInt ≤ 600) (he2 : (0 : Int) ≤ (rd M 2 5).toInt ∧ (rd M 2 5).toInt ≤ 599) (hih0 : ∀  (M : Mem), OKb (true, g) M → 600 - (rd M 2 5).toInt < d0 → Sf (ih0  M) (pM (true, g))) (hmu0 : 600 - (rd M 2 5).toInt ≤ d0) : Sf (mX4_takeNumber_b63 2 ih0 M) (pM (true, g)) := by
  unfold mX4_takeNumber_b63
  have b_1 : (0 : Int) ≤ (rd M 2 5).toInt ∧ (rd M 2 5).toInt ≤ 600 := h_M.at rfl
  have n_2 : ((1 : Int32)).toInt = 1 := rfl
  try have a_3 : (((rd M 2 5) + (1 : Int32))).toInt = ((rd M 2 5)).toInt + ((1 : Int32)).toInt := i_add (by omega) (by omega)
  have z_4 : (0 : Int) ≤ (((rd M 2 5) + (1 : Int32))).toInt ∧ (((rd M 2 5) + (1 : Int32))).toInt ≤ 600 := ⟨by omega, by omega⟩
  refine Sf.b (fun M14 e_M14 => ?_)
  have h_M14 : OKb (true, g) M14 := by rw [e_M14]; exact h_M.put rfl z_4
  have w_5 : (rd M14 2 5).toInt = (((rd M 2 5) + (1 : Int32))).toInt := by rw [e_M14, rd_we]
  exact (hih0 _ h_M14 (by omega))
set_option maxHeartbeats 2000000 in
theorem sX4_takeNumber_b0 {g : (Nat → Int × Int) × (Nat → Int × Int)} {ih0 : Mem → Option (Mem × Unit)} {M : Mem} {d0 : Nat} (h_M : OKb (true, g) M) (hih0 : ∀  (M : Mem), OKb (true, g) M → 600 - (rd M 2 5).toInt < d0 → Sf (ih0  M) (pM (true, g))) (hmu0 : 600 - (rd M 2 5).toInt ≤ d0) : Sf (mX4_takeNumber_b0 2 ih0 M) (pM (true, g)) := by
  unfold mX4_takeNumber_b0
  have b_1 : (0 : Int) ≤ (rd M 2 3).toInt ∧ (rd M 2 3).toInt ≤ 600 := h_M.at rfl
  have b_2 : (0 : Int) ≤ (rd M 2 5).toInt ∧ (rd M 2 5).toInt ≤ 600 := h_M.at rfl
  refine Sf.i (fun c_3 => ?_) (fun c_3 => ?_)
  · have c_3 := i_le.mp c_3
    exact (sX4_takeNumber_b76 h_M)
  · have c_3 := i_nle c_3
    have b_4 : (1 : Int) ≤ (rd M 2 2).toInt ∧ (rd M 2 2).toInt ≤ 1 := h_M.at rfl
    have n_5 : ((1 : Int32)).toInt = 1 := rfl
    refine Sf.k (decide_eq_true (i_eq.mpr (by omega))) ?_
    refine Sf.k (ok_in (by omega) (by omega)) ?_
    have b_6 : (-128 : Int) ≤ (rd M 1 (((rd M 2 5)).toNatClampNeg)).toInt ∧ (rd M 1 (((rd M 2 5)).toNatClampNeg)).toInt ≤ 127 := h_M.at rfl
    refine Sf.c (sX4_isDigit h_M ⟨by omega, by omega⟩) (fun r10 p_7 => ?_)
    obtain ⟨p_7a, p_7b⟩ := p_7
    have n_8 : ((0 : Int32)).toInt = 0 := rfl
    refine Sf.i (fun c_9 => ?_) (fun c_9 => ?_)
    · have c_9 := i_eq.mp c_9
      exact (sX4_takeNumber_b76 h_M)
    · have c_9 := i_ne c_9
      have n_10 : ((4 : Int32)).toInt = 4 := rfl
      have b_11 : (0 : Int) ≤ (rd M 2 4).toInt ∧ (rd M 2 4).toInt ≤ 600 := h_M.at rfl
      try have a_12 : (((rd M 2 5) - (rd M 2 4))).toInt = ((rd M 2 5)).toInt - ((rd M 2 4)).toInt := i_sub (by omega) (by omega)
      refine Sf.i (fun c_13 => ?_) (fun c_13 => ?_)
      · have c_13 := i_le.mp c_13
        exact (sX4_takeNumber_b63 h_M ⟨by omega, by omega⟩ ⟨by omega, by omega⟩ ⟨by omega, by omega⟩ hih0 (by omega))
      · have c_13 := i_nle c_13
        refine Sf.k (decide_eq_true (i_eq.mpr (by omega))) ?_
        refine Sf.k (ok_in (by omega) (by omega)) ?_
        refine Sf.b (fun M18 e_M18 => ?_)
        have h_M18 : OKb (true, g) M18 := by rw [e_M18]; exact h_M.put rfl (i_rng _)
        have w_14 : (rd M18 2 2).toInt = (rd M 2 2).toInt := by rw [e_M18, rd_wj (by decide)]
        have w_15 : (rd M18 2 3).toInt = (rd M 2 3).toInt := by rw [e_M18, rd_wj (by decide)]
        have w_16 : (rd M18 2 5).toInt = (rd M 2 5).toInt := by rw [e_M18, rd_wj (by decide)]
        exact (sX4_takeNumber_b63 h_M18 ⟨by omega, by omega⟩ ⟨by omega, by omega⟩ ⟨by omega, by omega⟩ hih0 (by omega))
theorem sX4_takeNumber_l0_n {g : (Nat → Int × Int) × (Nat → Int × Int)}    : ∀ (n : Nat)  (M : Mem) (h_M : OKb (true, g) M)     (hmu : 600 - (rd M 2 5).toInt < n), Sf (mX4_takeNumber_l0 2 n  M) (pM (true, g)) := by
  intro n
  induction n with
  | zero => intro M h_M hmu; have bz0 : (0 : Int) ≤ (rd M 2 5).toInt ∧ (rd M 2 5).toInt ≤ 600 := h_M.at rfl; exfalso; omega
  | succ n IH => intro M h_M hmu; exact sX4_takeNumber_b0  h_M     IH (by omega)
theorem sX4_takeNumber_l0 {g : (Nat → Int × Int) × (Nat → Int × Int)}   {M : Mem}  (h_M : OKb (true, g) M)     (hmu : 600 - (rd M 2 5).toInt < 5000) : Sf (mX4_takeNumber_l0 2 5000  M) (pM (true, g)) :=
  sX4_takeNumber_l0_n   5000  M h_M     hmu
set_option maxHeartbeats 2000000 in
theorem sX4_takeNumber {g : (Nat → Int × Int) × (Nat → Int × Int)} {M : Mem} (h_M : OKb (true, g) M) : Sf (mX4_takeNumber 2 M) (pM (true, g)) := by
  unfold mX4_takeNumber
  have b_1 : (0 : Int) ≤ (rd M 2 5).toInt ∧ (rd M 2 5).toInt ≤ 600 := h_M.at rfl
  exact (sX4_takeNumber_l0 h_M (by omega))
set_option maxHeartbeats 2000000 in
theorem sX4_nextToken_b143 {g : (Nat → Int × Int) × (Nat → Int × Int)} {y1 : Int32} {M : Mem} (h_M : OKb (true, g) M) (hy1 : (1 : Int) ≤ (y1).toInt ∧ (y1).toInt ≤ 4) (he0 : (1 : Int) ≤ (rd M 2 2).toInt ∧ (rd M 2 2).toInt ≤ 1) (he1 : (1 : Int) ≤ (rd M 2 3).toInt ∧ (rd M 2 3).toInt ≤ 600) (he2 : (0 : Int) ≤ (rd M 2 4).toInt ∧ (rd M 2 4).toInt ≤ 599) (he3 : (0 : Int) ≤ (rd M 2 5).toInt ∧ (rd M 2 5).toInt ≤ 599) (he4 : (0 : Int) ≤ (rd M 2 7).toInt ∧ (rd M 2 7).toInt ≤ 0) : Sf (mX4_nextToken_b143 2 y1 M) (pM (true, g)) := by
  unfold mX4_nextToken_b143
  have z_1 : (0 : Int) ≤ (y1).toInt ∧ (y1).toInt ≤ 4 := ⟨by omega, by omega⟩
  refine Sf.b (fun M24 e_M24 => ?_)
  have h_M24 : OKb (true, g) M24 := by rw [e_M24]; exact h_M.put rfl z_1
  have w_2 : (rd M24 2 5).toInt = (rd M 2 5).toInt := by rw [e_M24, rd_wj (by decide)]
  have b_3 : (0 : Int) ≤ (rd M 2 5).toInt ∧ (rd M 2 5).toInt ≤ 600 := h_M.at rfl
  have n_4 : ((1 : Int32)).toInt = 1 := rfl
  try have a_5 : (((rd M24 2 5) + (1 : Int32))).toInt = ((rd M24 2 5)).toInt + ((1 : Int32)).toInt := i_add (by omega) (by omega)
  have z_6 : (0 : Int) ≤ (((rd M24 2 5) + (1 : Int32))).toInt ∧ (((rd M24 2 5) + (1 : Int32))).toInt ≤ 600 := ⟨by omega, by omega⟩
  refine Sf.b (fun M26 e_M26 => ?_)
  have h_M26 : OKb (true, g) M26 := by rw [e_M26]; exact h_M24.put rfl z_6
  exact Sf.ok h_M26
set_option maxHeartbeats 2000000 in
theorem sX4_nextToken_b47 {g : (Nat → Int × Int) × (Nat → Int × Int)} {M : Mem} (h_M : OKb (true, g) M) : Sf (mX4_nextToken_b47 2 M) (pM (true, g)) := by
  unfold mX4_nextToken_b47
  have b_1 : (0 : Int) ≤ (rd M 2 4).toInt ∧ (rd M 2 4).toInt ≤ 600 := h_M.at rfl
  have z_2 : (0 : Int) ≤ ((rd M 2 4)).toInt ∧ ((rd M 2 4)).toInt ≤ 600 := ⟨by omega, by omega⟩
  refine Sf.b (fun M4 e_M4 => ?_)
  have h_M4 : OKb (true, g) M4 := by rw [e_M4]; exact h_M.put rfl z_2
  refine Sf.b (fun M6 e_M6 => ?_)
  have h_M6 : OKb (true, g) M6 := by rw [e_M6]; exact h_M4.put rfl (i_rng _)
  have w_3 : (rd M6 2 4).toInt = (rd M4 2 4).toInt := by rw [e_M6, rd_wj (by decide)]
  have w_4 : (rd M4 2 4).toInt = (rd M 2 4).toInt := by rw [e_M4, rd_wj (by decide)]
  have w_5 : (rd M6 2 3).toInt = (rd M4 2 3).toInt := by rw [e_M6, rd_wj (by decide)]
  have w_6 : (rd M4 2 3).toInt = (rd M 2 3).toInt := by rw [e_M4, rd_wj (by decide)]
  have b_7 : (0 : Int) ≤ (rd M 2 3).toInt ∧ (rd M 2 3).toInt ≤ 600 := h_M.at rfl
  refine Sf.i (fun c_8 => ?_) (fun c_8 => ?_)
  · have c_8 := i_lt.mp c_8
    have w_9 : (rd M6 2 2).toInt = (rd M4 2 2).toInt := by rw [e_M6, rd_wj (by decide)]
    have w_10 : (rd M4 2 2).toInt = (rd M 2 2).toInt := by rw [e_M4, rd_wj (by decide)]
    have b_11 : (1 : Int) ≤ (rd M 2 2).toInt ∧ (rd M 2 2).toInt ≤ 1 := h_M.at rfl
    have n_12 : ((1 : Int32)).toInt = 1 := rfl
    refine Sf.k (decide_eq_true (i_eq.mpr (by omega))) ?_
    refine Sf.k (ok_in (by omega) (by omega)) ?_
    have w_13 : (rd M6 1 (((rd M6 2 4)).toNatClampNeg)).toInt = (rd M4 1 (((rd M6 2 4)).toNatClampNeg)).toInt := by rw [e_M6, rd_wk (by omega)]
    have w_14 : (rd M4 1 (((rd M6 2 4)).toNatClampNeg)).toInt = (rd M 1 (((rd M6 2 4)).toNatClampNeg)).toInt := by rw [e_M4, rd_wk (by omega)]
    have b_15 : (-128 : Int) ≤ (rd M 1 (((rd M6 2 4)).toNatClampNeg)).toInt ∧ (rd M 1 (((rd M6 2 4)).toNatClampNeg)).toInt ≤ 127 := h_M.at rfl
    refine Sf.c (sX4_isLetter h_M6 ⟨by omega, by omega⟩) (fun r12 p_16 => ?_)
    obtain ⟨p_16a, p_16b⟩ := p_16
    have n_17 : ((0 : Int32)).toInt = 0 := rfl
    refine Sf.i (fun c_18 => ?_) (fun c_18 => ?_)
    · have c_18 := i_eq.mp c_18
      refine Sf.k (decide_eq_true (i_eq.mpr (by omega))) ?_
      refine Sf.k (ok_in (by omega) (by omega)) ?_
      refine Sf.c (sX4_isDigit h_M6 ⟨by omega, by omega⟩) (fun r18 p_19 => ?_)
      obtain ⟨p_19a, p_19b⟩ := p_19
      refine Sf.i (fun c_20 => ?_) (fun c_20 => ?_)
      · have c_20 := i_eq.mp c_20
        refine Sf.k (decide_eq_true (i_eq.mpr (by omega))) ?_
        refine Sf.k (ok_in (by omega) (by omega)) ?_
        have n_21 : ((59 : Int32)).toInt = 59 := rfl
        refine Sf.i (fun c_22 => ?_) (fun c_22 => ?_)
        · have c_22 := i_eq.mp c_22
          have n_23 : ((4 : Int32)).toInt = 4 := rfl
          have w_24 : (rd M6 2 5).toInt = (rd M4 2 5).toInt := by rw [e_M6, rd_wj (by decide)]
          have w_25 : (rd M4 2 5).toInt = ((rd M 2 4)).toInt := by rw [e_M4, rd_we]
          have w_26 : (rd M6 2 7).toInt = ((0 : Int32)).toInt := by rw [e_M6, rd_we]
          have n_27 : ((0 : Int32)).toInt = 0 := rfl
          exact (sX4_nextToken_b143 h_M6 ⟨by omega, by omega⟩ ⟨by omega, by omega⟩ ⟨by omega, by omega⟩ ⟨by omega, by omega⟩ ⟨by omega, by omega⟩ ⟨by omega, by omega⟩)
        · have c_22 := i_ne c_22
          have n_28 : ((1 : Int32)).toInt = 1 := rfl
          have w_29 : (rd M6 2 5).toInt = (rd M4 2 5).toInt := by rw [e_M6, rd_wj (by decide)]
          have w_30 : (rd M4 2 5).toInt = ((rd M 2 4)).toInt := by rw [e_M4, rd_we]
          have w_31 : (rd M6 2 7).toInt = ((0 : Int32)).toInt := by rw [e_M6, rd_we]
          have n_32 : ((0 : Int32)).toInt = 0 := rfl
          exact (sX4_nextToken_b143 h_M6 ⟨by omega, by omega⟩ ⟨by omega, by omega⟩ ⟨by omega, by omega⟩ ⟨by omega, by omega⟩ ⟨by omega, by omega⟩ ⟨by omega, by omega⟩)
      · have c_20 := i_ne c_20
        refine Sf.m (sX4_takeNumber h_M6) (fun M30 _ h_M30 => ?_)
        have h_M30 : OKb (true, g) M30 := h_M30
        exact Sf.ok h_M30
    · have c_18 := i_ne c_18
      refine Sf.m (sX4_takeWord h_M6) (fun M33 _ h_M33 => ?_)
      have h_M33 : OKb (true, g) M33 := h_M33
      exact Sf.ok h_M33
  · have c_8 := i_nlt c_8
    have n_35 : ((0 : Int32)).toInt = 0 := rfl
    have z_36 : (0 : Int) ≤ ((0 : Int32)).toInt ∧ ((0 : Int32)).toInt ≤ 4 := ⟨by omega, by omega⟩
    refine Sf.b (fun M34 e_M34 => ?_)
    have h_M34 : OKb (true, g) M34 := by rw [e_M34]; exact h_M6.put rfl z_36
    exact Sf.ok h_M34
set_option maxHeartbeats 2000000 in
theorem sX4_nextToken_b8 {g : (Nat → Int × Int) × (Nat → Int × Int)} {ih8 : Mem → Option (Mem × Unit)} {M : Mem} {d8 : Nat} (h_M : OKb (true, g) M) (hih8 : ∀  (M : Mem), OKb (true, g) M → 600 - (rd M 2 4).toInt < d8 → Sf (ih8  M) (pM (true, g))) (hmu8 : 600 - (rd M 2 4).toInt ≤ d8) : Sf (mX4_nextToken_b8 2 ih8 M) (pM (true, g)) := by
  unfold mX4_nextToken_b8
  have b_1 : (0 : Int) ≤ (rd M 2 3).toInt ∧ (rd M 2 3).toInt ≤ 600 := h_M.at rfl
  have b_2 : (0 : Int) ≤ (rd M 2 4).toInt ∧ (rd M 2 4).toInt ≤ 600 := h_M.at rfl
  refine Sf.i (fun c_3 => ?_) (fun c_3 => ?_)
  · have c_3 := i_le.mp c_3
    exact (sX4_nextToken_b47 h_M)
  · have c_3 := i_nle c_3
    have b_4 : (1 : Int) ≤ (rd M 2 2).toInt ∧ (rd M 2 2).toInt ≤ 1 := h_M.at rfl
    have n_5 : ((1 : Int32)).toInt = 1 := rfl
    refine Sf.k (decide_eq_true (i_eq.mpr (by omega))) ?_
    refine Sf.k (ok_in (by omega) (by omega)) ?_
    have b_6 : (-128 : Int) ≤ (rd M 1 (((rd M 2 4)).toNatClampNeg)).toInt ∧ (rd M 1 (((rd M 2 4)).toNatClampNeg)).toInt ≤ 127 := h_M.at rfl
    refine Sf.c (sX4_isSpace h_M ⟨by omega, by omega⟩) (fun r39 p_7 => ?_)
    obtain ⟨p_7a, p_7b⟩ := p_7
    have n_8 : ((0 : Int32)).toInt = 0 := rfl
    refine Sf.i (fun c_9 => ?_) (fun c_9 => ?_)
    · have c_9 := i_eq.mp c_9
      exact (sX4_nextToken_b47 h_M)
    · have c_9 := i_ne c_9
      have n_10 : ((1 : Int32)).toInt = 1 := rfl
      try have a_11 : (((rd M 2 4) + (1 : Int32))).toInt = ((rd M 2 4)).toInt + ((1 : Int32)).toInt := i_add (by omega) (by omega)
      have z_12 : (0 : Int) ≤ (((rd M 2 4) + (1 : Int32))).toInt ∧ (((rd M 2 4) + (1 : Int32))).toInt ≤ 600 := ⟨by omega, by omega⟩
      refine Sf.b (fun M42 e_M42 => ?_)
      have h_M42 : OKb (true, g) M42 := by rw [e_M42]; exact h_M.put rfl z_12
      have w_13 : (rd M42 2 4).toInt = (((rd M 2 4) + (1 : Int32))).toInt := by rw [e_M42, rd_we]
      exact (hih8 _ h_M42 (by omega))
theorem sX4_nextToken_l8_n {g : (Nat → Int × Int) × (Nat → Int × Int)}    : ∀ (n : Nat)  (M : Mem) (h_M : OKb (true, g) M)     (hmu : 600 - (rd M 2 4).toInt < n), Sf (mX4_nextToken_l8 2 n  M) (pM (true, g)) := by
  intro n
  induction n with
  | zero => intro M h_M hmu; have bz0 : (0 : Int) ≤ (rd M 2 4).toInt ∧ (rd M 2 4).toInt ≤ 600 := h_M.at rfl; exfalso; omega
  | succ n IH => intro M h_M hmu; exact sX4_nextToken_b8  h_M     IH (by omega)
theorem sX4_nextToken_l8 {g : (Nat → Int × Int) × (Nat → Int × Int)}   {M : Mem}  (h_M : OKb (true, g) M)     (hmu : 600 - (rd M 2 4).toInt < 5000) : Sf (mX4_nextToken_l8 2 5000  M) (pM (true, g)) :=
  sX4_nextToken_l8_n   5000  M h_M     hmu
set_option maxHeartbeats 2000000 in
theorem sX4_nextToken {g : (Nat → Int × Int) × (Nat → Int × Int)} {M : Mem} (h_M : OKb (true, g) M) : Sf (mX4_nextToken 2 M) (pM (true, g)) := by
  unfold mX4_nextToken
  have b_1 : (0 : Int) ≤ (rd M 2 5).toInt ∧ (rd M 2 5).toInt ≤ 600 := h_M.at rfl
  have z_2 : (0 : Int) ≤ ((rd M 2 5)).toInt ∧ ((rd M 2 5)).toInt ≤ 600 := ⟨by omega, by omega⟩
  refine Sf.b (fun M1 e_M1 => ?_)
  have h_M1 : OKb (true, g) M1 := by rw [e_M1]; exact h_M.put rfl z_2
  have w_3 : (rd M1 2 4).toInt = ((rd M 2 5)).toInt := by rw [e_M1, rd_we]
  exact (sX4_nextToken_l8 h_M1 (by omega))
set_option maxHeartbeats 2000000 in
theorem sX4_errorIfNot {f : Bx} {x1 : Int32} {x2 : Int32} {M : Mem} (h_M : OKb f M) (hx1 : (2 : Int) ≤ (x1).toInt ∧ (x1).toInt ≤ 4) (hx2 : (0 : Int) ≤ (x2).toInt ∧ (x2).toInt ≤ 2) : Sf (mX4_errorIfNot 2 x1 x2 M) (pI (0) (2)) := by
  unfold mX4_errorIfNot
  have b_1 : (0 : Int) ≤ (rd M 2 6).toInt ∧ (rd M 2 6).toInt ≤ 4 := h_M.at rfl
  have n_2 : ((1 : Int32)).toInt = 1 := rfl
  refine Sf.i (fun c_3 => ?_) (fun c_3 => ?_)
  · have c_3 := i_eq.mp c_3
    have z_4 : (0 : Int) ≤ ((1 : Int32)).toInt ∧ ((1 : Int32)).toInt ≤ 2 := ⟨by omega, by omega⟩
    exact Sf.ok z_4
  · have c_3 := i_ne c_3
    refine Sf.i (fun c_5 => ?_) (fun c_5 => ?_)
    · have c_5 := i_eq.mp c_5
      have z_6 : (0 : Int) ≤ (x2).toInt ∧ (x2).toInt ≤ 2 := ⟨by omega, by omega⟩
      exact Sf.ok z_6
    · have c_5 := i_ne c_5
      have n_7 : ((2 : Int32)).toInt = 2 := rfl
      have z_8 : (0 : Int) ≤ ((2 : Int32)).toInt ∧ ((2 : Int32)).toInt ≤ 2 := ⟨by omega, by omega⟩
      exact Sf.ok z_8
set_option maxHeartbeats 2000000 in
theorem sX4_errorOfWord_b106 {f : Bx} {k0 : Nat} {k1 : Nat} {M : Mem} (hk1 : isP k1) (h_M : OKb f M) : Sf (mX4_errorOfWord_b106 k0 k1 M) (pI (0) (5)) := by
  unfold mX4_errorOfWord_b106
  have n_1 : ((5 : Int32)).toInt = 5 := rfl
  have z_2 : (0 : Int) ≤ ((5 : Int32)).toInt ∧ ((5 : Int32)).toInt ≤ 5 := ⟨by omega, by omega⟩
  exact Sf.ok z_2
set_option maxHeartbeats 2000000 in
theorem sX4_errorOfWord_b94 {f : Bx} {k0 : Nat} {k1 : Nat} {M : Mem} {x4 : Int32} {y0 : Int32} (hk1 : isP k1) (h_M : OKb f M) (hx4 : (0 : Int) ≤ (x4).toInt ∧ (x4).toInt ≤ 1) (hy0 : (0 : Int) ≤ (y0).toInt ∧ (y0).toInt ≤ 1) : Sf (mX4_errorOfWord_b94 k0 k1 M x4 y0) (pI (0) (5)) := by
  unfold mX4_errorOfWord_b94
  have n_1 : ((0 : Int32)).toInt = 0 := rfl
  refine Sf.i (fun c_2 => ?_) (fun c_2 => ?_)
  · have c_2 := i_eq.mp c_2
    refine Sf.i (fun c_3 => ?_) (fun c_3 => ?_)
    · have c_3 := i_eq.mp c_3
      have n_4 : ((0 : Int32)).toInt = 0 := rfl
      have z_5 : (0 : Int) ≤ ((0 : Int32)).toInt ∧ ((0 : Int32)).toInt ≤ 5 := ⟨by omega, by omega⟩
      exact Sf.ok z_5
    · have c_3 := i_ne c_3
      exact (sX4_errorOfWord_b106 hk1 h_M)
  · have c_2 := i_ne c_2
    exact (sX4_errorOfWord_b106 hk1 h_M)
set_option maxHeartbeats 2000000 in
theorem sX4_errorOfWord_b93 {f : Bx} {k0 : Nat} {k1 : Nat} {M : Mem} {x4 : Int32} (hk1 : isP k1) (h_M : OKb f M) (hx4 : (0 : Int) ≤ (x4).toInt ∧ (x4).toInt ≤ 1) : Sf (mX4_errorOfWord_b93 k0 k1 M x4) (pI (0) (5)) := by
  unfold mX4_errorOfWord_b93
  have n_1 : ((0 : Int32)).toInt = 0 := rfl
  exact (sX4_errorOfWord_b94 hk1 h_M ⟨by omega, by omega⟩ ⟨by omega, by omega⟩)
set_option maxHeartbeats 2000000 in
theorem sX4_errorOfWord_b71 {f : Bx} {k0 : Nat} {k1 : Nat} {M : Mem} {y0 : Int32} (hk1 : isP k1) (h_M : OKb f M) (hy0 : (0 : Int) ≤ (y0).toInt ∧ (y0).toInt ≤ 1) : Sf (mX4_errorOfWord_b71 k0 k1 M y0) (pI (0) (5)) := by
  unfold mX4_errorOfWord_b71
  refine Sf.i (fun c_1 => ?_) (fun c_1 => ?_)
  · skip
    have b_2 : (0 : Int) ≤ (rd M k1 10).toInt ∧ (rd M k1 10).toInt ≤ 8 := h_M.at (bx_P0 hk1)
    have n_3 : ((8 : Int32)).toInt = 8 := rfl
    refine Sf.i (fun c_4 => ?_) (fun c_4 => ?_)
    · have c_4 := i_lt.mp c_4
      exact (sX4_errorOfWord_b93 hk1 h_M ⟨by omega, by omega⟩)
    · have c_4 := i_nlt c_4
      have n_5 : ((1 : Int32)).toInt = 1 := rfl
      exact (sX4_errorOfWord_b94 hk1 h_M ⟨by omega, by omega⟩ ⟨by omega, by omega⟩)
  · skip
    exact (sX4_errorOfWord_b93 hk1 h_M ⟨by omega, by omega⟩)
set_option maxHeartbeats 2000000 in
theorem sX4_errorOfWord_b70 {f : Bx} {k0 : Nat} {k1 : Nat} {M : Mem} (hk1 : isP k1) (h_M : OKb f M) : Sf (mX4_errorOfWord_b70 k0 k1 M) (pI (0) (5)) := by
  unfold mX4_errorOfWord_b70
  have n_1 : ((0 : Int32)).toInt = 0 := rfl
  exact (sX4_errorOfWord_b71 hk1 h_M ⟨by omega, by omega⟩)
set_option maxHeartbeats 2000000 in
theorem sX4_errorOfWord_b39 {f : Bx} {k0 : Nat} {k1 : Nat} {M : Mem} {x2 : Int32} {y0 : Int32} (hk1 : isP k1) (h_M : OKb f M) (hx2 : (0 : Int) ≤ (x2).toInt ∧ (x2).toInt ≤ 1) (hy0 : (0 : Int) ≤ (y0).toInt ∧ (y0).toInt ≤ 1) : Sf (mX4_errorOfWord_b39 k0 k1 M x2 y0) (pI (0) (5)) := by
  unfold mX4_errorOfWord_b39
  have n_1 : ((0 : Int32)).toInt = 0 := rfl
  refine Sf.i (fun c_2 => ?_) (fun c_2 => ?_)
  · have c_2 := i_eq.mp c_2
    refine Sf.i (fun c_3 => ?_) (fun c_3 => ?_)
    · have c_3 := i_eq.mp c_3
      refine Sf.c (sX5_isBend h_M) (fun r9 p_4 => ?_)
      obtain ⟨p_4a, p_4b⟩ := p_4
      refine Sf.i (fun c_5 => ?_) (fun c_5 => ?_)
      · have c_5 := i_eq.mp c_5
        exact (sX4_errorOfWord_b70 hk1 h_M)
      · have c_5 := i_ne c_5
        refine Sf.c (sX1_bendCount hk1 h_M) (fun r17 p_6 => ?_)
        obtain ⟨p_6a, p_6b⟩ := p_6
        have n_7 : ((8 : Int32)).toInt = 8 := rfl
        refine Sf.i (fun c_8 => ?_) (fun c_8 => ?_)
        · have c_8 := i_lt.mp c_8
          exact (sX4_errorOfWord_b70 hk1 h_M)
        · have c_8 := i_nlt c_8
          have n_9 : ((1 : Int32)).toInt = 1 := rfl
          exact (sX4_errorOfWord_b71 hk1 h_M ⟨by omega, by omega⟩)
    · have c_3 := i_ne c_3
      have n_10 : ((4 : Int32)).toInt = 4 := rfl
      have z_11 : (0 : Int) ≤ ((4 : Int32)).toInt ∧ ((4 : Int32)).toInt ≤ 5 := ⟨by omega, by omega⟩
      exact Sf.ok z_11
  · have c_2 := i_ne c_2
    have n_12 : ((4 : Int32)).toInt = 4 := rfl
    have z_13 : (0 : Int) ≤ ((4 : Int32)).toInt ∧ ((4 : Int32)).toInt ≤ 5 := ⟨by omega, by omega⟩
    exact Sf.ok z_13
set_option maxHeartbeats 2000000 in
theorem sX4_errorOfWord_b38 {f : Bx} {k0 : Nat} {k1 : Nat} {M : Mem} {x2 : Int32} (hk1 : isP k1) (h_M : OKb f M) (hx2 : (0 : Int) ≤ (x2).toInt ∧ (x2).toInt ≤ 1) : Sf (mX4_errorOfWord_b38 k0 k1 M x2) (pI (0) (5)) := by
  unfold mX4_errorOfWord_b38
  have n_1 : ((0 : Int32)).toInt = 0 := rfl
  exact (sX4_errorOfWord_b39 hk1 h_M ⟨by omega, by omega⟩ ⟨by omega, by omega⟩)
set_option maxHeartbeats 2000000 in
theorem sX4_errorOfWord_b19 {f : Bx} {k0 : Nat} {k1 : Nat} {M : Mem} {y0 : Int32} (hk1 : isP k1) (h_M : OKb f M) (hy0 : (0 : Int) ≤ (y0).toInt ∧ (y0).toInt ≤ 1) : Sf (mX4_errorOfWord_b19 k0 k1 M y0) (pI (0) (5)) := by
  unfold mX4_errorOfWord_b19
  refine Sf.c (sX5_isBend h_M) (fun r3 p_1 => ?_)
  obtain ⟨p_1a, p_1b⟩ := p_1
  have n_2 : ((0 : Int32)).toInt = 0 := rfl
  refine Sf.i (fun c_3 => ?_) (fun c_3 => ?_)
  · have c_3 := i_eq.mp c_3
    exact (sX4_errorOfWord_b38 hk1 h_M ⟨by omega, by omega⟩)
  · have c_3 := i_ne c_3
    have b_4 : (0 : Int) ≤ (rd M k1 0).toInt ∧ (rd M k1 0).toInt ≤ 9 := h_M.at (bx_P0 hk1)
    refine Sf.i (fun c_5 => ?_) (fun c_5 => ?_)
    · have c_5 := i_eq.mp c_5
      have n_6 : ((1 : Int32)).toInt = 1 := rfl
      exact (sX4_errorOfWord_b39 hk1 h_M ⟨by omega, by omega⟩ ⟨by omega, by omega⟩)
    · have c_5 := i_ne c_5
      exact (sX4_errorOfWord_b38 hk1 h_M ⟨by omega, by omega⟩)
set_option maxHeartbeats 2000000 in
theorem sX4_errorOfWord_b18 {f : Bx} {k0 : Nat} {k1 : Nat} {M : Mem} (hk1 : isP k1) (h_M : OKb f M) : Sf (mX4_errorOfWord_b18 k0 k1 M) (pI (0) (5)) := by
  unfold mX4_errorOfWord_b18
  have n_1 : ((0 : Int32)).toInt = 0 := rfl
  exact (sX4_errorOfWord_b19 hk1 h_M ⟨by omega, by omega⟩)
set_option maxHeartbeats 2000000 in
theorem sX4_errorOfWord {f : Bx} {k0 : Nat} {k1 : Nat} {M : Mem} (hk1 : isP k1) (h_M : OKb f M) : Sf (mX4_errorOfWord k0 k1 M) (pI (0) (5)) := by
  unfold mX4_errorOfWord
  refine Sf.i (fun c_1 => ?_) (fun c_1 => ?_)
  · skip
    have b_2 : (0 : Int) ≤ (rd M k1 0).toInt ∧ (rd M k1 0).toInt ≤ 9 := h_M.at (bx_P0 hk1)
    have n_3 : ((0 : Int32)).toInt = 0 := rfl
    refine Sf.i (fun c_4 => ?_) (fun c_4 => ?_)
    · have c_4 := i_le.mp c_4
      exact (sX4_errorOfWord_b18 hk1 h_M)
    · have c_4 := i_nle c_4
      have n_5 : ((1 : Int32)).toInt = 1 := rfl
      exact (sX4_errorOfWord_b19 hk1 h_M ⟨by omega, by omega⟩)
  · skip
    exact (sX4_errorOfWord_b18 hk1 h_M)
theorem sX4_accept_b139 {f : Bx} {k1 : Nat} {k2 : Nat} {y1 : Int32} {y2 : Int32} {M : Mem} (hk2 : isP k2) (h_M : OKb f M) (hy1 : (0 : Int) ≤ (y1).toInt ∧ (y1).toInt ≤ 9999) (hy2 : (0 : Int) ≤ (y2).toInt ∧ (y2).toInt ≤ 1) : Sf (mX4_accept_b139 2 k1 k2 y1 y2 M) (pM f) := by
  unfold mX4_accept_b139
  refine Sf.m (sX1_addLeg hk2 h_M ⟨by omega, by omega⟩ ⟨by omega, by omega⟩) (fun M12 _ h_M12 => ?_)
  exact Sf.ok h_M12
abbrev gT (s : Nat → Int × Int) : (Nat → Int × Int) × (Nat → Int × Int) := (fun _ => bT, s)
abbrev fT (s : Nat → Int × Int) : Bx := (false, gT s)
abbrev sB (s : Nat → Int × Int) : Nat → Int × Int := fun i => if i = 1 then (0, 600) else s i
theorem gT_nums {b : Bool} {g : Nat → Int × Int} {s : Nat → Int × Int} {M : Mem} (h : OKb (b, g, s) M) : OKb (b, gT s) M := h.nums (fun _ => i_rng _)
/-- the numbers read so far of a word's -/
def Nw (w : Nat) (M : Mem) (n : Int) : Prop := ∀ j : Nat, (j : Int) < n → 0 ≤ (rd M 3 j).toInt ∧ (rd M 3 j).toInt ≤ 9999 ∧ (w = 10 → (rd M 3 j).toInt ≤ 99)
theorem al_rng {w : Nat} {x v : Int32} (h : alo w x ≤ v.toInt ∧ v.toInt ≤ ahi w x) : 0 ≤ v.toInt ∧ v.toInt ≤ 9999 ∧ (w = 10 → v.toInt ≤ 99) := by
  have h0 := wF0_b w
  have h1 := wF1_b w
  have h2 := wF2_b w
  have h3 := wF3_b w
  refine ⟨?_, ?_, fun e => ?_⟩
  · have := h.1
    unfold alo at this
    split at this <;> omega
  · have := h.2
    unfold ahi at this
    split at this
    · omega
    · split at this <;> omega
  · subst e
    have := h.2
    unfold ahi at this
    have e1 : (wF1.getD 10 0).toInt = 99 := by decide
    have e2 : (wF2.getD 10 0).toInt = 99 := by decide
    have e3 : (wF3.getD 10 0).toInt = 99 := by decide
    rw [e1, e2, e3] at this
    split at this
    · exact this
    · split at this <;> exact this
theorem sX4_accept {f : Bx} {k1 : Nat} {k2 : Nat} {M : Mem} (hk2 : isP k2) (h_M : OKb f M) (hN : Nw k1 M 3) : Sf (mX4_accept 2 k1 k2 M) (pM f) := by
  unfold mX4_accept
  have N0 : (0 : Int) ≤ (rd M (2 + 1) ((0 : Int32)).toNatClampNeg).toInt ∧ (rd M (2 + 1) ((0 : Int32)).toNatClampNeg).toInt ≤ 9999 ∧ (k1 = 10 → (rd M (2 + 1) ((0 : Int32)).toNatClampNeg).toInt ≤ 99) := hN 0 (by decide)
  have N1 : (0 : Int) ≤ (rd M (2 + 1) ((1 : Int32)).toNatClampNeg).toInt ∧ (rd M (2 + 1) ((1 : Int32)).toNatClampNeg).toInt ≤ 9999 ∧ (k1 = 10 → (rd M (2 + 1) ((1 : Int32)).toNatClampNeg).toInt ≤ 99) := hN 1 (by decide)
  have N2 : (0 : Int) ≤ (rd M (2 + 1) ((2 : Int32)).toNatClampNeg).toInt ∧ (rd M (2 + 1) ((2 : Int32)).toNatClampNeg).toInt ≤ 9999 ∧ (k1 = 10 → (rd M (2 + 1) ((2 : Int32)).toNatClampNeg).toInt ≤ 99) := hN 2 (by decide)
  have n0 : ((0 : Int32)).toInt = 0 := rfl
  have n1 : ((1 : Int32)).toInt = 1 := rfl
  have n2 : ((2 : Int32)).toInt = 2 := rfl
  have n_2 : (((-1) : Int32)).toInt = -1 := rfl
  refine Sf.c (sX5_toolNumber h_M) (fun r2 p_1 => ?_)
  obtain ⟨p_1a, p_1b⟩ := p_1
  refine Sf.i (fun c_3 => ?_) (fun c_3 => ?_)
  · refine Sf.i (fun c_4 => ?_) (fun c_4 => ?_)
    · refine Sf.k (ok_in (by omega) (by omega)) ?_
      refine Sf.k (ok_in (by omega) (by omega)) ?_
      refine Sf.k (ok_in (by omega) (by omega)) ?_
      refine Sf.m (sX1_putSheet hk2 h_M) (fun M29 _ p_8 => ?_)
      exact Sf.ok p_8.1
    · refine Sf.i (fun c_9 => ?_) (fun c_9 => ?_)
      · have q0 := N0.2.2 c_9
        have q1 := N1.2.2 c_9
        have q2 := N2.2.2 c_9
        refine Sf.k (ok_in (by omega) (by omega)) ?_
        refine Sf.k (ok_in (by omega) (by omega)) ?_
        refine Sf.k (ok_in (by omega) (by omega)) ?_
        refine Sf.m (sX1_putCosts hk2 h_M ⟨N0.1, q0⟩ ⟨N1.1, q1⟩ ⟨N2.1, q2⟩) (fun M23 _ p_13 => ?_)
        exact Sf.ok p_13.1
      · refine Sf.i (fun c_14 => ?_) (fun c_14 => ?_)
        · refine Sf.k (ok_in (by omega) (by omega)) ?_
          refine Sf.k (ok_in (by omega) (by omega)) ?_
          refine Sf.m (sX1_addBack hk2 h_M) (fun M17 _ h_M17 => ?_)
          exact Sf.ok h_M17
        · refine Sf.k (ok_in (by omega) (by omega)) ?_
          refine Sf.i (fun c_19 => ?_) (fun c_19 => ?_)
          · exact (sX4_accept_b139 hk2 h_M ⟨N0.1, N0.2.1⟩ (by decide))
          · exact (sX4_accept_b139 hk2 h_M ⟨N0.1, N0.2.1⟩ (by decide))
  · have c_3 := i_ne c_3
    refine Sf.k (ok_in (by omega) (by omega)) ?_
    refine Sf.k (ok_in (by omega) (by omega)) ?_
    refine Sf.m (sX1_putTool hk2 h_M ⟨by omega, by omega⟩) (fun M34 _ h_M34 => ?_)
    exact Sf.ok h_M34
theorem sX5_allowsBehind2 {k : Nat} {x1 x2 x3 : Int32} {M : Mem} : Sf (mX5_allowsBehind k x1 x2 x3 M) (fun r => r = 0 ∨ (alo k x2 ≤ x3.toInt ∧ x3.toInt ≤ ahi k x2)) := by
  unfold mX5_allowsBehind
  refine Sf.c sX5_allows (fun r p => ?_)
  refine Sf.i (fun _ => Sf.ok (Or.inl rfl)) (fun c => ?_)
  have c := i_ne c
  have h2 : alo k x2 ≤ x3.toInt ∧ x3.toInt ≤ ahi k x2 := p.2.resolve_left c
  refine Sf.i (fun _ => Sf.i (fun _ => Sf.ok (Or.inl rfl)) (fun _ => ?_)) (fun _ => ?_)
  · exact Sf.ok (Or.inr h2)
  · exact Sf.ok (Or.inr h2)
theorem sX4_errorOfNumber_b74' {k1 k2 : Nat} {x5 : Int32} {M : Mem} {R : Prop} (h : x5 = 0 ∨ R) : Sf (mX4_errorOfNumber_b74 2 k1 k2 M x5) (fun r => (0 ≤ r.toInt ∧ r.toInt ≤ 3) ∧ (r = 0 → R)) := by
  unfold mX4_errorOfNumber_b74
  exact Sf.i (fun _ => Sf.ok ⟨by decide, fun e => absurd e (by decide)⟩) (fun c => Sf.ok ⟨by decide, fun _ => h.resolve_left c⟩)
theorem sX4_errorOfNumber_b47' {f : Bx} {k1 k2 : Nat} {x2 y0 : Int32} {M : Mem} {R : Prop} (hk2 : isP k2) (h_M : OKb f M) (h : y0 = 0 ∨ R) : Sf (mX4_errorOfNumber_b47 2 k1 k2 M x2 y0) (fun r => (0 ≤ r.toInt ∧ r.toInt ≤ 3) ∧ (r = 0 → R)) := by
  unfold mX4_errorOfNumber_b47
  refine Sf.i (fun _ => Sf.i (fun _ => ?_) (fun _ => sX4_errorOfNumber_b74' h)) (fun _ => sX4_errorOfNumber_b74' h)
  refine Sf.c (sX1_lastBackRatio hk2 h_M) (fun r _ => ?_)
  exact Sf.i (fun _ => sX4_errorOfNumber_b74' h) (fun _ => sX4_errorOfNumber_b74' (Or.inl rfl))
theorem sX4_errorOfNumber' {f : Bx} {k1 k2 : Nat} {x2 : Int32} {M : Mem} (hk2 : isP k2) (h_M : OKb f M) : Sf (mX4_errorOfNumber 2 k1 k2 x2 M) (fun r => (0 ≤ r.toInt ∧ r.toInt ≤ 3) ∧ (r = 0 → alo k1 x2 ≤ (rd M 2 7).toInt ∧ (rd M 2 7).toInt ≤ ahi k1 x2)) := by
  unfold mX4_errorOfNumber
  refine Sf.c (sX4_errorIfNot h_M (by decide) (by decide)) (fun r p => ?_)
  refine Sf.i (fun _ => ?_) (fun c => Sf.ok ⟨⟨p.1, by have := p.2; omega⟩, fun e => absurd e c⟩)
  refine Sf.i (fun c2 => ?_) (fun _ => ?_)
  · refine Sf.c sX5_allows (fun r2 p2 => sX4_errorOfNumber_b47' hk2 h_M ?_)
    rw [c2]
    exact p2.2.imp (fun e => i_eq.mpr e) id
  · refine Sf.k (ok_in (by decide) (by decide)) ?_
    exact Sf.c sX5_allowsBehind2 (fun r2 p2 => sX4_errorOfNumber_b47' hk2 h_M p2)
set_option maxHeartbeats 2000000 in
theorem sX4_readStatement_b148 {s : Nat → Int × Int} {k1 : Nat} {x3 : Int32} {M : Mem} (hk1 : isP k1) (h_M : OKb (true, gT s) M) (hx3 : (0 : Int) ≤ (x3).toInt ∧ (x3).toInt ≤ 5) : Sf (mX4_readStatement_b148 2 k1 x3 M) (pM (true, gT s)) := by
  unfold mX4_readStatement_b148
  have z_1 : (0 : Int) ≤ (x3).toInt ∧ (x3).toInt ≤ 5 := ⟨by omega, by omega⟩
  refine Sf.b (fun M8 e_M8 => ?_)
  have h_M8 : OKb (true, gT s) M8 := by rw [e_M8]; exact h_M.put rfl z_1
  have w_2 : (rd M8 2 4).toInt = (rd M 2 4).toInt := by rw [e_M8, rd_wj (by decide)]
  have b_3 : (0 : Int) ≤ (rd M 2 4).toInt ∧ (rd M 2 4).toInt ≤ 600 := h_M.at rfl
  have z_4 : (-1 : Int) ≤ ((rd M8 2 4)).toInt ∧ ((rd M8 2 4)).toInt ≤ 600 := ⟨by omega, by omega⟩
  refine Sf.b (fun M10 e_M10 => ?_)
  have h_M10 : OKb (true, gT s) M10 := by rw [e_M10]; exact h_M8.put rfl z_4
  exact Sf.ok h_M10
set_option maxHeartbeats 2000000 in
theorem sX4_readStatement_b131 {s : Nat → Int × Int} {k1 : Nat} {x3 : Int32} {M : Mem} (hk1 : isP k1) (h_M : OKb (true, gT s) M) (hx3 : (0 : Int) ≤ (x3).toInt ∧ (x3).toInt ≤ 2) : Sf (mX4_readStatement_b131 2 k1 x3 M) (pM (true, gT s)) := by
  unfold mX4_readStatement_b131
  have n_1 : ((0 : Int32)).toInt = 0 := rfl
  refine Sf.i (fun c_2 => ?_) (fun c_2 => ?_)
  · have c_2 := i_eq.mp c_2
    exact (sX4_readStatement_b148 hk1 h_M ⟨by omega, by omega⟩)
  · have c_2 := i_ne c_2
    exact (sX4_readStatement_b148 hk1 h_M ⟨by omega, by omega⟩)
set_option maxHeartbeats 2000000 in
theorem sX4_readStatement_b110 {s : Nat → Int × Int} {k1 : Nat} {ih55 : Int32 → Int32 → Mem → Option (Mem × Unit)} {x3 : Int32} {x4 : Int32} {M : Mem} {d55 : Nat} (hk1 : isP k1) (h_M : OKb (true, gT s) M) (hx3 : (0 : Int) ≤ (x3).toInt ∧ (x3).toInt ≤ 2) (hx4 : (0 : Int) ≤ (x4).toInt ∧ (x4).toInt ≤ 2) (hih55 : ∀ (yx3 : Int32) (yx4 : Int32) (M : Mem), OKb (true, gT s) M → ((0 : Int) ≤ (yx3).toInt ∧ (yx3).toInt ≤ 2) → ((0 : Int) ≤ (yx4).toInt ∧ (yx4).toInt ≤ 3) → 3 - (yx4).toInt < d55 → Sf (ih55 yx3 yx4 M) (pM (true, gT s))) (hmu55 : 3 - (x4).toInt ≤ d55) : Sf (mX4_readStatement_b110 2 k1 ih55 x3 x4 M) (pM (true, gT s)) := by
  unfold mX4_readStatement_b110
  have n_1 : ((1 : Int32)).toInt = 1 := rfl
  try have a_2 : ((x4 + (1 : Int32))).toInt = (x4).toInt + ((1 : Int32)).toInt := i_add (by omega) (by omega)
  refine Sf.b (fun x4_110 e_x4_110 => ?_)
  have d_x4_110 := congrArg Int32.toInt e_x4_110
  exact (hih55 _ _ _ h_M ⟨by omega, by omega⟩ ⟨by omega, by omega⟩ (by omega))
set_option maxHeartbeats 2000000 in
theorem sX4_readStatement_b55 {s : Nat → Int × Int} {k1 : Nat} {ih55 : Int32 → Int32 → Mem → Option (Mem × Unit)} {x3 : Int32} {x4 : Int32} {M : Mem} {d55 : Nat} (hk1 : isP k1) (h_M : OKb (true, gT s) M) (hx3 : (0 : Int) ≤ (x3).toInt ∧ (x3).toInt ≤ 2) (hx4 : (0 : Int) ≤ (x4).toInt ∧ (x4).toInt ≤ 3) (hih55 : ∀ (yx3 : Int32) (yx4 : Int32) (M : Mem), OKb (true, gT s) M → ((0 : Int) ≤ (yx3).toInt ∧ (yx3).toInt ≤ 2) → ((0 : Int) ≤ (yx4).toInt ∧ (yx4).toInt ≤ 3) → 3 - (yx4).toInt < d55 → Sf (ih55 yx3 yx4 M) (pM (true, gT s))) (hmu55 : 3 - (x4).toInt ≤ d55) : Sf (mX4_readStatement_b55 2 k1 ih55 x3 x4 M) (pM (true, gT s)) := by
  unfold mX4_readStatement_b55
  have n_1 : ((3 : Int32)).toInt = 3 := rfl
  refine Sf.i (fun c_2 => ?_) (fun c_2 => ?_)
  · have c_2 := i_le.mp c_2
    have n_3 : ((0 : Int32)).toInt = 0 := rfl
    refine Sf.i (fun c_4 => ?_) (fun c_4 => ?_)
    · have c_4 := i_eq.mp c_4
      refine Sf.m (sX4_nextToken h_M) (fun M14 _ h_M14 => ?_)
      have h_M14 : OKb (true, gT s) M14 := h_M14
      have n_6 : ((4 : Int32)).toInt = 4 := rfl
      have n_7 : ((0 : Int32)).toInt = 0 := rfl
      refine Sf.c (sX4_errorIfNot h_M14 ⟨by omega, by omega⟩ ⟨by omega, by omega⟩) (fun r16 p_8 => ?_)
      obtain ⟨p_8a, p_8b⟩ := p_8
      exact (sX4_readStatement_b131 hk1 h_M14 ⟨by omega, by omega⟩)
    · have c_4 := i_ne c_4
      exact (sX4_readStatement_b131 hk1 h_M ⟨by omega, by omega⟩)
  · have c_2 := i_nle c_2
    refine Sf.k (ok_in (by omega) (by omega)) ?_
    refine Sf.b (fun M20 e_M20 => ?_)
    have h_M20 : OKb (true, gT s) M20 := by rw [e_M20]; exact h_M.put rfl (i_rng _)
    have n_9 : ((0 : Int32)).toInt = 0 := rfl
    refine Sf.i (fun c_10 => ?_) (fun c_10 => ?_)
    · have c_10 := i_eq.mp c_10
      exact (sX4_readStatement_b110 hk1 h_M20 ⟨by omega, by omega⟩ ⟨by omega, by omega⟩ hih55 (by omega))
    · have c_10 := i_ne c_10
      exact (sX4_readStatement_b110 hk1 h_M20 ⟨by omega, by omega⟩ ⟨by omega, by omega⟩ hih55 (by omega))
theorem sX4_readStatement_l55_n {s : Nat → Int × Int} {k1 : Nat} (hk1 : isP k1)   : ∀ (n : Nat) (x3 : Int32) (x4 : Int32) (M : Mem) (h_M : OKb (true, gT s) M) (hx3 : (0 : Int) ≤ (x3).toInt ∧ (x3).toInt ≤ 2) (hx4 : (0 : Int) ≤ (x4).toInt ∧ (x4).toInt ≤ 3)    (hmu : 3 - (x4).toInt < n), Sf (mX4_readStatement_l55 2 k1 n x3 x4 M) (pM (true, gT s)) := by
  intro n
  induction n with
  | zero => intro x3 x4 M h_M hx3 hx4 hmu; exfalso; omega
  | succ n IH => intro x3 x4 M h_M hx3 hx4 hmu; exact sX4_readStatement_b55 hk1 h_M hx3 hx4    IH (by omega)
theorem sX4_readStatement_l55 {s : Nat → Int × Int} {k1 : Nat} (hk1 : isP k1) {x3 : Int32} {x4 : Int32} {M : Mem}  (h_M : OKb (true, gT s) M) (hx3 : (0 : Int) ≤ (x3).toInt ∧ (x3).toInt ≤ 2) (hx4 : (0 : Int) ≤ (x4).toInt ∧ (x4).toInt ≤ 3)    (hmu : 3 - (x4).toInt < 5000) : Sf (mX4_readStatement_l55 2 k1 5000 x3 x4 M) (pM (true, gT s)) :=
  sX4_readStatement_l55_n hk1  5000 _ _ M h_M hx3 hx4    hmu
set_option maxHeartbeats 2000000 in
theorem sX4_readStatement_b51 {s : Nat → Int × Int} {k1 : Nat} {y0 : Int32} {M : Mem} (hk1 : isP k1) (h_M : OKb (true, gT s) M) (hy0 : (0 : Int) ≤ (y0).toInt ∧ (y0).toInt ≤ 2) : Sf (mX4_readStatement_b51 2 k1 y0 M) (pM (true, gT s)) := by
  unfold mX4_readStatement_b51
  have n_1 : ((0 : Int32)).toInt = 0 := rfl
  exact (sX4_readStatement_l55 hk1 h_M ⟨by omega, by omega⟩ ⟨by omega, by omega⟩ (by omega))
set_option maxHeartbeats 2000000 in
theorem sX4_readStatement_b32 {s : Nat → Int × Int} {k1 : Nat} {M : Mem} (hk1 : isP k1) (h_M : OKb (true, gT s) M) : Sf (mX4_readStatement_b32 2 k1 M) (pM (true, gT s)) := by
  unfold mX4_readStatement_b32
  have n_1 : ((2 : Int32)).toInt = 2 := rfl
  refine Sf.c (sX4_errorIfNot h_M ⟨by omega, by omega⟩ ⟨by omega, by omega⟩) (fun r3 p_2 => ?_)
  obtain ⟨p_2a, p_2b⟩ := p_2
  exact (sX4_readStatement_b51 hk1 h_M ⟨by omega, by omega⟩)
/-- the next token: the numbers stay as they are -/
theorem sX4_nextToken' {s : Nat → Int × Int} {M : Mem} (h : OKb (true, gT s) M) : Sf (mX4_nextToken 2 M) (fun q => OKb (true, gT s) q.1 ∧ ∀ j, (rd q.1 3 j).toInt = (rd M 3 j).toInt) := by
  have h2 : OKb (true, (fun j => ((rd M 3 j).toInt, (rd M 3 j).toInt)), s) M := h.nums (fun j => ⟨by show (rd M 3 j).toInt ≤ _; omega, by show _ ≤ (rd M 3 j).toInt; omega⟩)
  refine Sf.mono (sX4_nextToken h2) (fun q hq => ⟨gT_nums hq, fun j => ?_⟩)
  have h3 : (rd M 3 j).toInt ≤ (rd q.1 3 j).toInt ∧ (rd q.1 3 j).toInt ≤ (rd M 3 j).toInt := hq 3 j
  omega
theorem sX4_readStatement_b131v1 {s : Nat → Int × Int} {k1 : Nat} {w2 : Nat} {x3 : Int32} {M : Mem} (hk1 : isP k1) (h_M : OKb (true, gT s) M) (hx3 : (0 : Int) ≤ (x3).toInt ∧ (x3).toInt ≤ 5) (hN : x3 = 0 → Nw w2 M 3) : Sf (mX4_readStatement_b131v1 2 k1 w2 x3 M) (pM (true, gT s)) := by
  unfold mX4_readStatement_b131v1
  refine Sf.i (fun c => ?_) (fun _ => sX4_readStatement_b148 hk1 h_M hx3)
  refine Sf.m (sX4_accept hk1 h_M (hN c)) (fun M37 _ h => ?_)
  exact Sf.ok h

theorem Nw.put {w : Nat} {M : Mem} {n : Int} {x v : Int32} (h : Nw w M n) (hx : 0 ≤ x.toInt ∧ x.toInt = n) (hv : 0 ≤ v.toInt ∧ v.toInt ≤ 9999 ∧ (w = 10 → v.toInt ≤ 99)) : Nw w (wr M (2 + 1) x.toNatClampNeg v) (n + 1) := by
  intro j hj
  have hx2 : x.toNatClampNeg = x.toInt.toNat := i_clamp
  by_cases e : j = x.toNatClampNeg
  · subst e
    have e1 : rd (wr M (2 + 1) x.toNatClampNeg v) 3 x.toNatClampNeg = v := rd_we
    rw [e1]; exact hv
  · have e1 : rd (wr M (2 + 1) x.toNatClampNeg v) 3 j = rd M 3 j := rd_wj e
    rw [e1]
    exact h j (by omega)
theorem sX4_readStatement_b55v1 {s : Nat → Int × Int} {k1 : Nat} {w2 : Nat} {ih55v1 : Int32 → Int32 → Mem → Option (Mem × Unit)} {x3 : Int32} {x4 : Int32} {M : Mem} {d : Nat} (hk1 : isP k1) (h_M : OKb (true, gT s) M) (hx3 : (0 : Int) ≤ (x3).toInt ∧ (x3).toInt ≤ 5) (hx4 : (0 : Int) ≤ (x4).toInt ∧ (x4).toInt ≤ 3) (hN : x3 = 0 → Nw w2 M x4.toInt) (ih : ∀ (y3 y4 : Int32) (M : Mem), OKb (true, gT s) M → (0 : Int) ≤ (y3).toInt ∧ (y3).toInt ≤ 5 → (0 : Int) ≤ (y4).toInt ∧ (y4).toInt ≤ 3 → (y3 = 0 → Nw w2 M y4.toInt) → 3 - y4.toInt < d → Sf (ih55v1 y3 y4 M) (pM (true, gT s))) (hmu : 3 - x4.toInt ≤ d) : Sf (mX4_readStatement_b55v1 2 k1 w2 ih55v1 x3 x4 M) (pM (true, gT s)) := by
  unfold mX4_readStatement_b55v1
  have n3 : ((3 : Int32)).toInt = 3 := rfl
  have n1 : ((1 : Int32)).toInt = 1 := rfl
  have n0 : ((0 : Int32)).toInt = 0 := rfl
  refine Sf.i (fun c => ?_) (fun c => ?_)
  · have c := i_le.mp c
    have e4 : x4.toInt = 3 := by omega
    rw [e4] at hN
    refine Sf.i (fun c3 => ?_) (fun c3 => ?_)
    · refine Sf.m (sX4_nextToken' h_M) (fun M40 _ p => ?_)
      refine Sf.c (sX4_errorIfNot p.1 (by decide) (by decide)) (fun r pr => ?_)
      refine sX4_readStatement_b131v1 hk1 p.1 ⟨pr.1, by have := pr.2; omega⟩ (fun _ => ?_)
      intro j hj
      have := hN c3 j hj
      have e : (rd M40 3 j).toInt = (rd M 3 j).toInt := p.2 j
      rw [e]; exact this
    · exact sX4_readStatement_b131v1 hk1 h_M hx3 hN
  · have c := i_nle c
    refine Sf.k (ok_in (by omega) (by omega)) ?_
    refine Sf.b (fun M46 e46 => ?_)
    have h46 : OKb (true, gT s) M46 := by rw [e46]; exact h_M.put rfl (i_rng _)
    have hN46 : x3 = 0 → Nw w2 M46 (x4.toInt + 1) := fun e => by rw [e46]; exact (hN e).put ⟨hx4.1, rfl⟩ ⟨by decide, by decide, fun _ => by decide⟩
    have e5 : (x4 + 1).toInt = x4.toInt + 1 := (i_add (by omega) (by omega)).trans (by rw [n1])
    have step : ∀ (y3 : Int32) (M : Mem), OKb (true, gT s) M → (0 : Int) ≤ (y3).toInt ∧ (y3).toInt ≤ 5 → (y3 = 0 → Nw w2 M (x4.toInt + 1)) → Sf (mX4_readStatement_b110v1 2 k1 w2 ih55v1 y3 x4 M) (pM (true, gT s)) := by
      intro y3 M h hy hn
      unfold mX4_readStatement_b110v1
      refine Sf.b (fun v ev => ?_)
      rw [ev]
      exact ih y3 _ M h hy (by rw [e5]; omega) (by rw [e5]; exact hn) (by rw [e5]; omega)
    refine Sf.i (fun c3 => ?_) (fun c3 => step x3 M46 h46 hx3 hN46)
    refine Sf.c sX5_numberCount (fun r50 _ => ?_)
    refine Sf.i (fun _ => step x3 M46 h46 hx3 hN46) (fun _ => ?_)
    refine Sf.m (sX4_nextToken' h46) (fun M55 _ p => ?_)
    refine Sf.c (sX4_errorOfNumber' hk1 p.1) (fun r57 p57 => ?_)
    refine Sf.k (ok_in (by omega) (by omega)) ?_
    refine Sf.b (fun M61 e61 => ?_)
    have h61 : OKb (true, gT s) M61 := by rw [e61]; exact p.1.put rfl (i_rng _)
    refine step r57 M61 h61 ⟨p57.1.1, by have := p57.1.2; omega⟩ (fun e => ?_)
    rw [e61]
    have hv := al_rng (p57.2 e)
    refine Nw.put (M := M55) (fun j hj => ?_) ⟨hx4.1, rfl⟩ hv
    have e7 : (rd M55 3 j).toInt = (rd M46 3 j).toInt := p.2 j
    rw [e7]
    exact hN46 c3 j (by omega)
theorem sX4_readStatement_l55v1 {s : Nat → Int × Int} {k1 : Nat} {w2 : Nat} (hk1 : isP k1) : ∀ (n : Nat) (x3 x4 : Int32) (M : Mem) (_ : OKb (true, gT s) M) (_ : (0 : Int) ≤ (x3).toInt ∧ (x3).toInt ≤ 5) (_ : (0 : Int) ≤ (x4).toInt ∧ (x4).toInt ≤ 3) (_ : x3 = 0 → Nw w2 M x4.toInt) (_ : 3 - x4.toInt < n), Sf (mX4_readStatement_l55v1 2 k1 w2 n x3 x4 M) (pM (true, gT s)) := by
  intro n
  induction n with
  | zero => intro x3 x4 M h h3 h4 hN hmu; exfalso; omega
  | succ n IH => intro x3 x4 M h h3 h4 hN hmu; exact sX4_readStatement_b55v1 hk1 h h3 h4 hN IH (by omega)
theorem sX4_readStatement_b51v1 {s : Nat → Int × Int} {k1 : Nat} {w2 : Nat} {y0 : Int32} {M : Mem} (hk1 : isP k1) (h_M : OKb (true, gT s) M) (hy0 : (0 : Int) ≤ (y0).toInt ∧ (y0).toInt ≤ 5) : Sf (mX4_readStatement_b51v1 2 k1 w2 y0 M) (pM (true, gT s)) := by
  unfold mX4_readStatement_b51v1
  exact sX4_readStatement_l55v1 hk1 5000 y0 0 M h_M hy0 (by decide) (fun _ j hj => by rw [show ((0 : Int32)).toInt = 0 from rfl] at hj; omega) (by decide)
theorem sX4_readStatement_b32v1 {s : Nat → Int × Int} {k1 : Nat} {ws0 : Nat} {M : Mem} (hk1 : isP k1) (h_M : OKb (true, gT s) M) (_ : (1 : Int) ≤ (rd M 2 2).toInt ∧ (rd M 2 2).toInt ≤ 1) (_ : (2 : Int) ≤ (rd M 2 6).toInt ∧ (rd M 2 6).toInt ≤ 2) : Sf (mX4_readStatement_b32v1 2 k1 ws0 M) (pM (true, gT s)) := by
  unfold mX4_readStatement_b32v1
  exact Sf.c (sX4_errorOfWord hk1 h_M) (fun r p => sX4_readStatement_b51v1 hk1 h_M p)



theorem sX4_readStatement {s : Nat → Int × Int} {k1 : Nat} {M : Mem} (hk1 : isP k1) (h_M : OKb (true, gT s) M) : Sf (mX4_readStatement 2 k1 M) (pM (true, gT s)) := by
  unfold mX4_readStatement
  have b_4 : (1 : Int) ≤ (rd M 2 2).toInt ∧ (rd M 2 2).toInt ≤ 1 := h_M.at rfl
  have b_6 : (0 : Int) ≤ (rd M 2 4).toInt ∧ (rd M 2 4).toInt ≤ 600 := h_M.at rfl
  refine Sf.i (fun c => ?_) (fun c => sX4_readStatement_b32 hk1 h_M)
  have c := i_eq.mp c
  rw [show ((2 : Int32)).toInt = 2 from rfl] at c
  refine Sf.k (decide_eq_true (i_eq.mpr (by rw [show ((1 : Int32)).toInt = 1 from rfl]; omega))) ?_
  refine Sf.c (sX5_find h_M (by omega)) (fun r25 p => ?_)
  refine Sf.o (fun _ => sX4_readStatement_b32 hk1 h_M) (fun w27 cw => ?_)
  exact Sf.k (decide_eq_true (p w27 cw)) (sX4_readStatement_b32v1 hk1 h_M b_4 ⟨by omega, by omega⟩)
set_option maxHeartbeats 2000000 in
theorem sX4_readText_b84 {s : Nat → Int × Int} {k2 : Nat} {M : Mem} (hk2 : isP k2) (h_M : OKb (true, gT s) M) : Sf (mX4_readText_b84 2 1 k2 M) (pMI (true, gT s) (0) (1)) := by
  unfold mX4_readText_b84
  have b_1 : (0 : Int) ≤ (rd M 2 0).toInt ∧ (rd M 2 0).toInt ≤ 5 := h_M.at rfl
  have n_2 : ((0 : Int32)).toInt = 0 := rfl
  refine Sf.i (fun c_3 => ?_) (fun c_3 => ?_)
  · have c_3 := i_eq.mp c_3
    have n_4 : ((1 : Int32)).toInt = 1 := rfl
    have z_5 : (0 : Int) ≤ ((1 : Int32)).toInt ∧ ((1 : Int32)).toInt ≤ 1 := ⟨by omega, by omega⟩
    exact Sf.ok ⟨h_M, z_5⟩
  · have c_3 := i_ne c_3
    have n_6 : ((0 : Int32)).toInt = 0 := rfl
    have z_7 : (0 : Int) ≤ ((0 : Int32)).toInt ∧ ((0 : Int32)).toInt ≤ 1 := ⟨by omega, by omega⟩
    exact Sf.ok ⟨h_M, z_7⟩
set_option maxHeartbeats 2000000 in
theorem sX4_readText_b47 {s : Nat → Int × Int} {k2 : Nat} {ih47 : Int32 → Mem → Option (Mem × Int32)} {x4 : Int32} {M : Mem} {d47 : Nat} (hk2 : isP k2) (h_M : OKb (true, gT s) M) (hx4 : (0 : Int) ≤ (x4).toInt ∧ (x4).toInt ≤ 600) (hih47 : ∀ (yx4 : Int32) (M : Mem), OKb (true, gT s) M → ((0 : Int) ≤ (yx4).toInt ∧ (yx4).toInt ≤ 600) → 600 - (yx4).toInt < d47 → Sf (ih47 yx4 M) (pMI (true, gT s) (0) (1))) (hmu47 : 600 - (x4).toInt ≤ d47) : Sf (mX4_readText_b47 2 1 k2 ih47 x4 M) (pMI (true, gT s) (0) (1)) := by
  unfold mX4_readText_b47
  have n_1 : ((600 : Int32)).toInt = 600 := rfl
  refine Sf.i (fun c_2 => ?_) (fun c_2 => ?_)
  · have c_2 := i_le.mp c_2
    exact (sX4_readText_b84 hk2 h_M)
  · have c_2 := i_nle c_2
    have b_3 : (0 : Int) ≤ (rd M 2 6).toInt ∧ (rd M 2 6).toInt ≤ 4 := h_M.at rfl
    have n_4 : ((0 : Int32)).toInt = 0 := rfl
    refine Sf.i (fun c_5 => ?_) (fun c_5 => ?_)
    · have c_5 := i_eq.mp c_5
      exact (sX4_readText_b84 hk2 h_M)
    · have c_5 := i_ne c_5
      have b_6 : (0 : Int) ≤ (rd M 2 0).toInt ∧ (rd M 2 0).toInt ≤ 5 := h_M.at rfl
      refine Sf.i (fun c_7 => ?_) (fun c_7 => ?_)
      · have c_7 := i_eq.mp c_7
        refine Sf.m (sX4_readStatement hk2 h_M) (fun M25 _ h_M25 => ?_)
        have h_M25 : OKb (true, gT s) M25 := h_M25
        refine Sf.m (sX4_nextToken h_M25) (fun M28 _ h_M28 => ?_)
        have h_M28 : OKb (true, gT s) M28 := h_M28
        have n_10 : ((1 : Int32)).toInt = 1 := rfl
        try have a_11 : ((x4 + (1 : Int32))).toInt = (x4).toInt + ((1 : Int32)).toInt := i_add (by omega) (by omega)
        refine Sf.b (fun x4_78 e_x4_78 => ?_)
        have d_x4_78 := congrArg Int32.toInt e_x4_78
        exact (hih47 _ _ h_M28 ⟨by omega, by omega⟩ (by omega))
      · have c_7 := i_ne c_7
        exact (sX4_readText_b84 hk2 h_M)
theorem sX4_readText_l47_n {s : Nat → Int × Int} {k2 : Nat} (hk2 : isP k2)   : ∀ (n : Nat) (x4 : Int32) (M : Mem) (h_M : OKb (true, gT s) M) (hx4 : (0 : Int) ≤ (x4).toInt ∧ (x4).toInt ≤ 600)    (hmu : 600 - (x4).toInt < n), Sf (mX4_readText_l47 2 1 k2 n x4 M) (pMI (true, gT s) (0) (1)) := by
  intro n
  induction n with
  | zero => intro x4 M h_M hx4 hmu; exfalso; omega
  | succ n IH => intro x4 M h_M hx4 hmu; exact sX4_readText_b47 hk2 h_M hx4    IH (by omega)
theorem sX4_readText_l47 {s : Nat → Int × Int} {k2 : Nat} (hk2 : isP k2) {x4 : Int32} {M : Mem}  (h_M : OKb (true, gT s) M) (hx4 : (0 : Int) ≤ (x4).toInt ∧ (x4).toInt ≤ 600)    (hmu : 600 - (x4).toInt < 5000) : Sf (mX4_readText_l47 2 1 k2 5000 x4 M) (pMI (true, gT s) (0) (1)) :=
  sX4_readText_l47_n hk2  5000 _ M h_M hx4    hmu
set_option maxHeartbeats 2000000 in
theorem sX4_readText_b18 {s : Nat → Int × Int} {k2 : Nat} {y1 : Int32} {M : Mem} (hk2 : isP k2) (h_M : OKb (true, gT s) M) (hy1 : (0 : Int) ≤ (y1).toInt ∧ (y1).toInt ≤ 600) (he0 : (1 : Int) ≤ (rd M 2 2).toInt ∧ (rd M 2 2).toInt ≤ 1) : Sf (mX4_readText_b18 2 1 k2 y1 M) (pMI (true, gT s) (0) (1)) := by
  unfold mX4_readText_b18
  have z_1 : (0 : Int) ≤ (y1).toInt ∧ (y1).toInt ≤ 600 := ⟨by omega, by omega⟩
  refine Sf.b (fun M5 e_M5 => ?_)
  have h_M5 : OKb (true, gT s) M5 := by rw [e_M5]; exact h_M.put rfl z_1
  have n_2 : ((0 : Int32)).toInt = 0 := rfl
  have z_3 : (0 : Int) ≤ ((0 : Int32)).toInt ∧ ((0 : Int32)).toInt ≤ 600 := ⟨by omega, by omega⟩
  refine Sf.b (fun M7 e_M7 => ?_)
  have h_M7 : OKb (true, gT s) M7 := by rw [e_M7]; exact h_M5.put rfl z_3
  have z_4 : (0 : Int) ≤ ((0 : Int32)).toInt ∧ ((0 : Int32)).toInt ≤ 5 := ⟨by omega, by omega⟩
  refine Sf.b (fun M9 e_M9 => ?_)
  have h_M9 : OKb (true, gT s) M9 := by rw [e_M9]; exact h_M7.put rfl z_4
  have n_5 : (((-1) : Int32)).toInt = -1 := rfl
  have z_6 : (-1 : Int) ≤ (((-1) : Int32)).toInt ∧ (((-1) : Int32)).toInt ≤ 600 := ⟨by omega, by omega⟩
  refine Sf.b (fun M11 e_M11 => ?_)
  have h_M11 : OKb (true, gT s) M11 := by rw [e_M11]; exact h_M9.put rfl z_6
  refine Sf.m (sX1_clear hk2 h_M11) (fun M15 _ h_M15 => ?_)
  have h_M15 : OKb (true, gT s) M15 := h_M15
  refine Sf.m (sX4_nextToken h_M15) (fun M18 _ h_M18 => ?_)
  have h_M18 : OKb (true, gT s) M18 := h_M18
  exact (sX4_readText_l47 hk2 h_M18 ⟨by omega, by omega⟩ (by omega))
theorem sX4_readText {s : Nat → Int × Int} {k2 : Nat} {x2 : Int32} {M : Mem} (hk2 : isP k2) (h_M : OKb (fT s) M) (hx2 : (0 : Int) ≤ (x2).toInt ∧ (x2).toInt ≤ 600) : Sf (mX4_readText 2 1 k2 x2 M) (pMI (fT s) (0) (1)) := by
  unfold mX4_readText
  refine Sf.k (decide_eq_true rfl) ?_
  refine Sf.b (fun M1 e => ?_)
  have h1 : OKb (true, gT s) M1 := by rw [e]; exact OKb.read (f := fT s) (v := 1) h_M rfl
  have e0 : (1 : Int) ≤ (rd M1 2 2).toInt ∧ (rd M1 2 2).toInt ≤ 1 := h1 2 2
  exact Sf.mono (Q := pMI (true, gT s) 0 1) (Sf.i (fun _ => sX4_readText_b18 hk2 h1 (by decide) e0) (fun _ => sX4_readText_b18 hk2 h1 hx2 e0)) (fun q h => ⟨OKb.weak (f := fT s) h.1, h.2⟩)
end
/-! part 55b.dbl2 -/
section
/-! the class's doubles: no NaN -/
theorem pX_throw {ρ : Type} {f : Bx} {R : ρ → Prop} {es : List Nat} {q : Mem × (ρ ⊕ Nat)} (h : pX f (fun _ => False) es q) : pX f R es q := by
  obtain ⟨M, r⟩ := q
  cases r with
  | inl r => exact absurd h.2 id
  | inr e => exact ⟨h.1, h.2⟩
theorem n64_of {K : Nat} {x : UInt64} (h : Mg K x) (hK : K ≤ 2047) : n64b x = true := by
  unfold n64b
  refine decide_eq_true ?_
  rw [UInt64.le_iff_toNat_le, UInt64.toNat_and]
  have h1 : (0x7fffffffffffffff : UInt64).toNat = 2 ^ 63 - 1 := by decide
  have h2 : (0x7ff0000000000000 : UInt64).toNat = 2047 * 2 ^ 52 := by decide
  rw [h1, h2, Nat.and_two_pow_sub_one_eq_mod]
  exact Nat.le_of_lt (h.up hK)
theorem mg_2 : Mg 1025 (4611686018427387904 : UInt64) := by unfold Mg; decide
theorem mg_100 : Mg 1030 (4636737291354636288 : UInt64) := by unfold Mg; decide
theorem mg_100b : 1029 * 2 ^ 52 ≤ (4636737291354636288 : UInt64).toNat % 2 ^ 63 := by decide
theorem mg_pi : Mg 1024 (4609753073467320487 : UInt64) := by unfold Mg; decide
theorem mg_half : Mg 1023 (4602678819172646912 : UInt64) := by unfold Mg; decide
theorem mg_10 : Mg 1027 (4621819117588971520 : UInt64) := by unfold Mg; decide
theorem mg_8th : Mg 1021 (4593671619917905920 : UInt64) := by unfold Mg; decide
theorem mg_0 : Mg 1 FP.dconst0 := by unfold Mg; decide
theorem mg_i (v : Int32) : Mg 1056 (FP.i2d v) := Mg.i2d v
theorem mg_arg (a : Int32) : Mg 1055 (FP.dmul (FP.i2d a) (4593671619917905920 : UInt64)) := (mg_i a).mul mg_8th (by decide) (by decide) (by decide)
theorem d_pos {v : Int32} (h : 0 < Op.cmpValue (FP.dcmp (FP.i2d v) FP.dconst0) CmpOp.g) : v.toInt ≠ 0 := by
  intro e
  have e2 : v = 0 := i_eq.mpr (by rw [e]; rfl)
  subst e2
  exact absurd h (by decide +kernel)
section DD
variable {f : Bx} {k0 : Nat} {M : Mem}
theorem sX1_deductionOfBend : Sf (mX1_deductionOfBend k0 M) (Mg 1100) := by
  unfold mX1_deductionOfBend
  have a1 := mg_2.mul (mg_i (rd M k0 4 + rd M k0 3)) (K := 1059) (by decide) (by decide) (by decide)
  have a2 := (mg_i (rd M k0 5)).div (K' := 1051) mg_100b (mg_100.up (by decide)) (by decide) (by decide) (by decide)
  have a3 := a2.mul (mg_i (rd M k0 3)) (K := 1085) (by decide) (by decide) (by decide)
  have a4 := ((mg_i (rd M k0 4)).up (K' := 1085) (by decide)).add a3 (K' := 1087) (by decide) (by decide)
  have a5 := mg_pi.mul a4 (K := 1089) (by decide) (by decide) (by decide)
  have a6 := (a1.up (K' := 1089) (by decide)).sub a5 (K' := 1091) (by decide) (by decide)
  refine Sf.k (n64_of a1 (by decide)) (Sf.k (n64_of a2 (by decide)) (Sf.k (n64_of a3 (by decide)) (Sf.k (n64_of a4 (by decide)) (Sf.k (n64_of a5 (by decide)) (Sf.k (n64_of a6 (by decide)) (Sf.ok ?_))))))
  exact a6.up (by decide)
theorem sX1_ratioOfSheet : Sf (mX1_ratioOfSheet k0 M) (Mg 1070) := by
  unfold mX1_ratioOfSheet
  refine Sf.i (fun _ => Sf.ok (mg_0.up (by decide))) (fun c => ?_)
  have c := i_nle c
  rw [show ((0 : Int32)).toInt = 0 from rfl] at c
  have a1 := mg_10.mul (mg_i (rd M k0 4)) (K := 1061) (by decide) (by decide) (by decide)
  have a2 := a1.div (K' := 1062) (Mg.big (v := rd M k0 3) (by omega)) ((mg_i _).up (by decide)) (by decide) (by decide) (by decide)
  exact Sf.k (n64_of a1 (by decide)) (Sf.k (n64_of a2 (by decide)) (Sf.ok (a2.up (by decide))))
theorem sX1_springBackBetween {x1 x2 : Int32} {x3 : UInt64} (h1 : 0 ≤ x1.toInt ∧ x1.toInt ≤ 7) (h2 : 0 ≤ x2.toInt ∧ x2.toInt ≤ 7) (h3 : Mg 1070 x3) : Sf (mX1_springBackBetween k0 x1 x2 x3 M) (Mg 1110) := by
  unfold mX1_springBackBetween
  have o1 : okb x1 8 = true := ok_in (by omega) (by omega)
  have o2 : okb x2 8 = true := ok_in (by omega) (by omega)
  refine Sf.k o2 (Sf.k o1 (Sf.b (fun w ew => Sf.i (fun c => ?_) (fun _ => Sf.k o1 (Sf.ok ((mg_i _).up (by decide)))))))
  refine Sf.k o2 (Sf.k o1 (Sf.b (fun v ev => Sf.k o1 (Sf.k o1 ?_))))
  subst ew
  subst ev
  have hv := d_pos c
  have a1 := h3.sub ((mg_i (rd M (k0 + 3) x1.toNatClampNeg)).up (K' := 1070) (by decide)) (K' := 1072) (by decide) (by decide)
  have a2 := (mg_i (rd M (k0 + 4) x2.toNatClampNeg - rd M (k0 + 4) x1.toNatClampNeg)).mul a1 (K := 1106) (by decide) (by decide) (by decide)
  have a3 := a2.div (K' := 1107) (Mg.big hv) ((mg_i _).up (by decide)) (by decide) (by decide) (by decide)
  have a4 := ((mg_i (rd M (k0 + 4) x1.toNatClampNeg)).up (K' := 1107) (by decide)).add a3 (K' := 1109) (by decide) (by decide)
  exact Sf.k (n64_of a1 (by decide)) (Sf.k (n64_of a2 (by decide)) (Sf.k (n64_of a3 (by decide)) (Sf.k (n64_of a4 (by decide)) (Sf.ok (a4.up (by decide))))))
theorem sX1_springBackAt_b73 (hk : isP k0) (h_M : OKb f M) (hn : ¬ (rd M k0 10).toInt = 0) : Sf (mX1_springBackAt_b73 k0 M) (Mg 1110) := by
  unfold mX1_springBackAt_b73
  have b : (0 : Int) ≤ (rd M k0 10).toInt ∧ (rd M k0 10).toInt ≤ 8 := h_M.at (bx_P0 hk)
  have n1 : ((1 : Int32)).toInt = 1 := rfl
  have e := i_sub (a := rd M k0 10) (b := 1) (by omega) (by omega)
  exact Sf.k (ok_in (by omega) (by omega)) (Sf.ok ((mg_i _).up (by decide)))
theorem sX1_springBackAt_l31 (hk : isP k0) (h_M : OKb f M) (hn : ¬ (rd M k0 10).toInt = 0) : ∀ (n : Nat) (x1 : UInt64) (x3 : Int32) (_ : Mg 1070 x1) (_ : 1 ≤ x3.toInt ∧ x3.toInt ≤ 8) (_ : 9 - x3.toInt < n), Sf (mX1_springBackAt_l31 k0 M n x1 x3) (Mg 1110) := by
  intro n
  induction n with
  | zero => intro x1 x3 _ h hmu; exfalso; omega
  | succ n IH =>
    intro x1 x3 h1 h3 hmu
    show Sf (mX1_springBackAt_b31 k0 M (mX1_springBackAt_l31 k0 M n) x1 x3) _
    unfold mX1_springBackAt_b31
    have n1 : ((1 : Int32)).toInt = 1 := rfl
    have n8 : ((8 : Int32)).toInt = 8 := rfl
    refine Sf.i (fun _ => sX1_springBackAt_b73 hk h_M hn) (fun _ => Sf.i (fun _ => sX1_springBackAt_b73 hk h_M hn) (fun c => ?_))
    have c := i_nle c
    refine Sf.k (ok_in (by omega) (by omega)) (Sf.i (fun _ => Sf.b (fun v ev => ?_)) (fun _ => ?_))
    · have e := i_add (a := x3) (b := 1) (by omega) (by omega)
      rw [← ev] at e
      exact IH x1 v h1 (by omega) (by omega)
    · have e := i_sub (a := x3) (b := 1) (by omega) (by omega)
      exact Sf.c (sX1_springBackBetween (by omega) (by omega) h1) (fun r hr => Sf.ok hr)
theorem sX1_springBackAt {x1 : UInt64} (hk : isP k0) (h_M : OKb f M) (h1 : Mg 1070 x1) : Sf (mX1_springBackAt k0 x1 M) (Mg 1110) := by
  unfold mX1_springBackAt
  refine Sf.i (fun _ => Sf.ok (mg_0.up (by decide))) (fun c => Sf.k (by decide) (Sf.i (fun _ => ?_) (fun _ => Sf.k (by decide) (Sf.ok ((mg_i _).up (by decide))))))
  exact sX1_springBackAt_l31 hk h_M (i_ne c) 5000 x1 1 h1 (by decide) (by decide)
end DD
end
/-! part 56.s6 -/
section
set_option maxHeartbeats 2000000 in
theorem sX6_errorKind {s : Nat → Int × Int} {M : Mem} (h_M : OKb (fT s) M) : Sf (mX6_errorKind 0 M) (pI (0) (5)) := by
  unfold mX6_errorKind
  have b_1 : (0 : Int) ≤ (rd M 2 0).toInt ∧ (rd M 2 0).toInt ≤ 5 := h_M.at rfl
  have z_2 : (0 : Int) ≤ ((rd M 2 0)).toInt ∧ ((rd M 2 0)).toInt ≤ 5 := ⟨by omega, by omega⟩
  exact Sf.ok z_2
set_option maxHeartbeats 2000000 in
theorem sX6_errorPosition {s : Nat → Int × Int} {M : Mem} (h_M : OKb (fT s) M) : Sf (mX6_errorPosition 0 M) (pI (-1) (600)) := by
  unfold mX6_errorPosition
  have b_1 : (-1 : Int) ≤ (rd M 2 1).toInt ∧ (rd M 2 1).toInt ≤ 600 := h_M.at rfl
  have z_2 : (-1 : Int) ≤ ((rd M 2 1)).toInt ∧ ((rd M 2 1)).toInt ≤ 600 := ⟨by omega, by omega⟩
  exact Sf.ok z_2
set_option maxHeartbeats 2000000 in
theorem sX6_bends {s : Nat → Int × Int} {M : Mem} (h_M : OKb (fT s) M) : Sf (mX6_bends 0 M) (pI (0) (8)) := by
  unfold mX6_bends
  refine Sf.c (sX1_bendCount isP_5 h_M) (fun r2 p_1 => ?_)
  obtain ⟨p_1a, p_1b⟩ := p_1
  have z_2 : (0 : Int) ≤ (r2).toInt ∧ (r2).toInt ≤ 8 := ⟨by omega, by omega⟩
  exact Sf.ok z_2
set_option maxHeartbeats 2000000 in
theorem sX6_legs {s : Nat → Int × Int} {M : Mem} (h_M : OKb (fT s) M) : Sf (mX6_legs 0 M) (pI (0) (9)) := by
  unfold mX6_legs
  have b_1 : (0 : Int) ≤ (rd M 5 0).toInt ∧ (rd M 5 0).toInt ≤ 9 := h_M.at rfl
  have z_2 : (0 : Int) ≤ ((rd M 5 0)).toInt ∧ ((rd M 5 0)).toInt ≤ 9 := ⟨by omega, by omega⟩
  exact Sf.ok z_2
set_option maxHeartbeats 2000000 in
theorem sX6_requireLeg_b21 {s : Nat → Int × Int} {M : Mem} (h_M : OKb (fT s) M) : Sf (mX6_requireLeg_b21 0 M) (pX (fT s) (fun _ => False) [1]) := by
  unfold mX6_requireLeg_b21
  exact Sf.ok ⟨h_M, show (1 : Nat) ∈ [1] from by decide⟩
set_option maxHeartbeats 2000000 in
theorem sX6_requireLeg {s : Nat → Int × Int} {x1 : Int32} {M : Mem} (h_M : OKb (fT s) M) : Sf (mX6_requireLeg 0 x1 M) (pX (fT s) (fun _ => ((0 : Int) ≤ (x1).toInt ∧ (x1).toInt ≤ 8)) [1]) := by
  unfold mX6_requireLeg
  have n_1 : ((0 : Int32)).toInt = 0 := rfl
  refine Sf.i (fun c_2 => ?_) (fun c_2 => ?_)
  · have c_2 := i_lt.mp c_2
    exact Sf.mono (sX6_requireLeg_b21 h_M) (fun q h => pX_throw h)
  · have c_2 := i_nlt c_2
    have b_3 : (0 : Int) ≤ (rd M 5 0).toInt ∧ (rd M 5 0).toInt ≤ 9 := h_M.at rfl
    refine Sf.i (fun c_4 => ?_) (fun c_4 => ?_)
    · have c_4 := i_le.mp c_4
      exact Sf.mono (sX6_requireLeg_b21 h_M) (fun q h => pX_throw h)
    · have c_4 := i_nle c_4
      have n_5 : ((9 : Int32)).toInt = 9 := rfl
      refine Sf.i (fun c_6 => ?_) (fun c_6 => ?_)
      · have c_6 := i_lt.mp c_6
        exact Sf.ok ⟨h_M, by omega⟩
      · have c_6 := i_nlt c_6
        exfalso; omega
set_option maxHeartbeats 2000000 in
theorem sX6_leg {s : Nat → Int × Int} {x1 : Int32} {M : Mem} (h_M : OKb (fT s) M) : Sf (mX6_leg 0 x1 M) (pX (fT s) (rI (0) (9999)) [1]) := by
  unfold mX6_leg
  refine Sf.x (sX6_requireLeg h_M) (fun M3 _ p_1 => ?_) (fun M e h => ⟨h.1, h.2⟩)
  have h_M3 : OKb (fT s) M3 := p_1.1
  have p_1h : ((0 : Int) ≤ (x1).toInt ∧ (x1).toInt ≤ 8) := p_1.2
  refine Sf.k (ok_in (by omega) (by omega)) ?_
  have b_2 : (0 : Int) ≤ (rd M3 (5 + 1) ((x1).toNatClampNeg)).toInt ∧ (rd M3 (5 + 1) ((x1).toNatClampNeg)).toInt ≤ 9999 := h_M3.at rfl
  have z_3 : (0 : Int) ≤ ((rd M3 (5 + 1) ((x1).toNatClampNeg))).toInt ∧ ((rd M3 (5 + 1) ((x1).toNatClampNeg))).toInt ≤ 9999 := ⟨by omega, by omega⟩
  exact Sf.ok ⟨h_M3, z_3⟩
set_option maxHeartbeats 2000000 in
theorem sX6_requireBend_b21 {s : Nat → Int × Int} {M : Mem} (h_M : OKb (fT s) M) : Sf (mX6_requireBend_b21 0 M) (pX (fT s) (fun _ => False) [1]) := by
  unfold mX6_requireBend_b21
  exact Sf.ok ⟨h_M, show (1 : Nat) ∈ [1] from by decide⟩
set_option maxHeartbeats 2000000 in
theorem sX6_requireBend {s : Nat → Int × Int} {x1 : Int32} {M : Mem} (h_M : OKb (fT s) M) : Sf (mX6_requireBend 0 x1 M) (pX (fT s) (fun _ => ((0 : Int) ≤ (x1).toInt ∧ (x1).toInt ≤ 7)) [1]) := by
  unfold mX6_requireBend
  have n_1 : ((0 : Int32)).toInt = 0 := rfl
  refine Sf.i (fun c_2 => ?_) (fun c_2 => ?_)
  · have c_2 := i_lt.mp c_2
    exact Sf.mono (sX6_requireBend_b21 h_M) (fun q h => pX_throw h)
  · have c_2 := i_nlt c_2
    refine Sf.c (sX1_bendCount isP_5 h_M) (fun r3 p_3 => ?_)
    obtain ⟨p_3a, p_3b⟩ := p_3
    refine Sf.i (fun c_4 => ?_) (fun c_4 => ?_)
    · have c_4 := i_le.mp c_4
      exact Sf.mono (sX6_requireBend_b21 h_M) (fun q h => pX_throw h)
    · have c_4 := i_nle c_4
      have n_5 : ((8 : Int32)).toInt = 8 := rfl
      refine Sf.i (fun c_6 => ?_) (fun c_6 => ?_)
      · have c_6 := i_lt.mp c_6
        exact Sf.ok ⟨h_M, by omega⟩
      · have c_6 := i_nlt c_6
        exfalso; omega
set_option maxHeartbeats 2000000 in
theorem sX6_isUp {s : Nat → Int × Int} {x1 : Int32} {M : Mem} (h_M : OKb (fT s) M) : Sf (mX6_isUp 0 x1 M) (pX (fT s) (rI (0) (1)) [1]) := by
  unfold mX6_isUp
  refine Sf.x (sX6_requireBend h_M) (fun M3 _ p_1 => ?_) (fun M e h => ⟨h.1, h.2⟩)
  have h_M3 : OKb (fT s) M3 := p_1.1
  have p_1h : ((0 : Int) ≤ (x1).toInt ∧ (x1).toInt ≤ 7) := p_1.2
  refine Sf.c (sX1_goesUp isP_5 h_M3 ⟨by omega, by omega⟩) (fun r6 p_2 => ?_)
  obtain ⟨p_2a, p_2b⟩ := p_2
  refine Sf.k (isB_in ⟨by omega, by omega⟩) ?_
  have z_3 : (0 : Int) ≤ (r6).toInt ∧ (r6).toInt ≤ 1 := ⟨by omega, by omega⟩
  exact Sf.ok ⟨h_M3, z_3⟩
set_option maxHeartbeats 2000000 in
theorem sX6_tool_b21 {s : Nat → Int × Int} {M : Mem} (h_M : OKb (fT s) M) : Sf (mX6_tool_b21 0 M) (pX (fT s) (rI (-2147483648) (2147483647)) [0]) := by
  unfold mX6_tool_b21
  exact Sf.ok ⟨h_M, show (0 : Nat) ∈ [0] from by decide⟩
set_option maxHeartbeats 2000000 in
theorem sX6_tool {s : Nat → Int × Int} {x1 : Int32} {x2 : Int32} {M : Mem} (h_M : OKb (fT s) M) : Sf (mX6_tool 0 x1 x2 M) (pX (fT s) (rI (-2147483648) (2147483647)) [0]) := by
  unfold mX6_tool
  refine Sf.c sX5_ofTool (fun r2 p_1 => ?_)
  have p_1 : r2 = none ∨ ∃ w, r2 = some w ∧ 5 ≤ w ∧ w ≤ 9 ∧ (w : Int) = 5 + (x1).toInt := p_1
  refine Sf.o (fun c_2 => ?_) (fun w4 c_2 => ?_)
  · skip
    exact (sX6_tool_b21 h_M)
  · skip
    have p_1 : 5 ≤ w4 ∧ w4 ≤ 9 ∧ ((w4 : Nat) : Int) = 5 + _ := of_rel p_1 c_2
    refine Sf.k (decide_eq_true (by omega)) ?_
    have n_3 : ((0 : Int32)).toInt = 0 := rfl
    refine Sf.i (fun c_4 => ?_) (fun c_4 => ?_)
    · have c_4 := i_lt.mp c_4
      exact (sX6_tool_b21 h_M)
    · have c_4 := i_nlt c_4
      refine Sf.c sX5_numberCount (fun r8 p_5 => ?_)
      have p_5 : ((1 : Int) ≤ (r8).toInt ∧ (r8).toInt ≤ 3) ∧ ((w4 = 9 ∧ (r8).toInt = 1) ∨ (5 ≤ w4 ∧ w4 ≤ 8 ∧ (r8).toInt = 2) ∨ w4 < 5 ∨ 9 < w4) := p_5
      refine Sf.i (fun c_6 => ?_) (fun c_6 => ?_)
      · have c_6 := i_lt.mp c_6
        have n_7 : ((2 : Int32)).toInt = 2 := rfl
        try have a_8 : (((2 : Int32) * x1)).toInt = 2 * (x1).toInt := i_mulc (by omega) (by omega) (by omega)
        try have a_9 : ((((2 : Int32) * x1) + x2)).toInt = (((2 : Int32) * x1)).toInt + (x2).toInt := i_add (by omega) (by omega)
        refine Sf.k (ok_in (by omega) (by omega)) ?_
        exact Sf.ok ⟨h_M, (i_rng _)⟩
      · have c_6 := i_nlt c_6
        exact (sX6_tool_b21 h_M)
set_option maxHeartbeats 2000000 in
theorem sX6_finishedWidth {s : Nat → Int × Int} {M : Mem} (h_M : OKb (fT s) M) : Sf (mX6_finishedWidth 0 M) (pMI (fT s) (-2147483648) (2147483647)) := by
  unfold mX6_finishedWidth
  refine Sf.m (sX2_layFinished isL_103 isP_5 h_M) (fun M3 _ h_M3 => ?_)
  have h_M3 : OKb (fT s) M3 := h_M3
  have b_2 : (0 : Int) ≤ (rd M3 5 0).toInt ∧ (rd M3 5 0).toInt ≤ 9 := h_M3.at rfl
  refine Sf.c (sX2_extent_1 h_M3 ⟨by omega, by omega⟩) (fun r5 p_3 => ?_)
  obtain ⟨p_3a, p_3b⟩ := p_3
  exact Sf.ok ⟨h_M3, (i_rng _)⟩
set_option maxHeartbeats 2000000 in
theorem sX6_finishedHeight {s : Nat → Int × Int} {M : Mem} (h_M : OKb (fT s) M) : Sf (mX6_finishedHeight 0 M) (pMI (fT s) (-2147483648) (2147483647)) := by
  unfold mX6_finishedHeight
  refine Sf.m (sX2_layFinished isL_103 isP_5 h_M) (fun M3 _ h_M3 => ?_)
  have h_M3 : OKb (fT s) M3 := h_M3
  have b_2 : (0 : Int) ≤ (rd M3 5 0).toInt ∧ (rd M3 5 0).toInt ≤ 9 := h_M3.at rfl
  refine Sf.c (sX2_extent_0 h_M3 ⟨by omega, by omega⟩) (fun r5 p_3 => ?_)
  obtain ⟨p_3a, p_3b⟩ := p_3
  exact Sf.ok ⟨h_M3, (i_rng _)⟩
set_option maxHeartbeats 2000000 in
theorem sX6_isFinishedCrossed {s : Nat → Int × Int} {M : Mem} (h_M : OKb (fT s) M) : Sf (mX6_isFinishedCrossed 0 M) (pMI (fT s) (0) (1)) := by
  unfold mX6_isFinishedCrossed
  refine Sf.m (sX2_layFinished isL_103 isP_5 h_M) (fun M3 _ h_M3 => ?_)
  have h_M3 : OKb (fT s) M3 := h_M3
  refine Sf.c (sX2_crossesItself isL_103 h_M3) (fun r5 p_2 => ?_)
  obtain ⟨p_2a, p_2b⟩ := p_2
  refine Sf.k (isB_in ⟨by omega, by omega⟩) ?_
  have z_3 : (0 : Int) ≤ (r5).toInt ∧ (r5).toInt ≤ 1 := ⟨by omega, by omega⟩
  exact Sf.ok ⟨h_M3, z_3⟩
set_option maxHeartbeats 2000000 in
theorem sX6_requireChoice_b9 {s : Nat → Int × Int} {M : Mem} (h_M : OKb (fT s) M) : Sf (mX6_requireChoice_b9 M) (pX (fT s) (fun _ => False) [0]) := by
  unfold mX6_requireChoice_b9
  exact Sf.ok ⟨h_M, show (0 : Nat) ∈ [0] from by decide⟩
set_option maxHeartbeats 2000000 in
theorem sX6_requireChoice {s : Nat → Int × Int} {x0 : Int32} {x1 : Int32} {M : Mem} (h_M : OKb (fT s) M) (hx1 : (1 : Int) ≤ (x1).toInt ∧ (x1).toInt ≤ 3) : Sf (mX6_requireChoice x0 x1 M) (pX (fT s) (fun _ => ((0 : Int) ≤ (x0).toInt ∧ (x0).toInt ≤ (x1).toInt)) [0]) := by
  unfold mX6_requireChoice
  have n_1 : ((0 : Int32)).toInt = 0 := rfl
  refine Sf.i (fun c_2 => ?_) (fun c_2 => ?_)
  · have c_2 := i_lt.mp c_2
    exact Sf.mono (sX6_requireChoice_b9 h_M) (fun q h => pX_throw h)
  · have c_2 := i_nlt c_2
    refine Sf.i (fun c_3 => ?_) (fun c_3 => ?_)
    · have c_3 := i_le.mp c_3
      exact Sf.ok ⟨h_M, by omega⟩
    · have c_3 := i_nle c_3
      exact Sf.mono (sX6_requireChoice_b9 h_M) (fun q h => pX_throw h)
set_option maxHeartbeats 2000000 in
theorem sX6_finishedCorner {s : Nat → Int × Int} {x1 : Int32} {x2 : Int32} {M : Mem} (h_M : OKb (fT s) M) : Sf (mX6_finishedCorner 0 x1 x2 M) (pX (fT s) (rI (-2147483648) (2147483647)) [0, 1]) := by
  unfold mX6_finishedCorner
  refine Sf.x (sX6_requireLeg h_M) (fun M3 _ p_1 => ?_) (fun M e h => ⟨h.1, mem_sub (by decide) h.2⟩)
  have h_M3 : OKb (fT s) M3 := p_1.1
  have p_1h : ((0 : Int) ≤ (x1).toInt ∧ (x1).toInt ≤ 8) := p_1.2
  have n_2 : ((1 : Int32)).toInt = 1 := rfl
  refine Sf.x (sX6_requireChoice h_M3 ⟨by omega, by omega⟩) (fun M7 _ p_3 => ?_) (fun M e h => ⟨h.1, mem_sub (by decide) h.2⟩)
  have h_M7 : OKb (fT s) M7 := p_3.1
  have p_3h : ((0 : Int) ≤ (x2).toInt ∧ (x2).toInt ≤ ((1 : Int32)).toInt) := p_3.2
  refine Sf.m (sX2_layFinished isL_103 isP_5 h_M7) (fun M11 _ h_M11 => ?_)
  have h_M11 : OKb (fT s) M11 := h_M11
  have n_5 : ((0 : Int32)).toInt = 0 := rfl
  refine Sf.i (fun c_6 => ?_) (fun c_6 => ?_)
  · have c_6 := i_eq.mp c_6
    refine Sf.k (ok_in (by omega) (by omega)) ?_
    exact Sf.ok ⟨h_M11, (i_rng _)⟩
  · have c_6 := i_ne c_6
    refine Sf.k (ok_in (by omega) (by omega)) ?_
    exact Sf.ok ⟨h_M11, (i_rng _)⟩
set_option maxHeartbeats 2000000 in
theorem sX6_isSymmetric {s : Nat → Int × Int} {M : Mem} (h_M : OKb (fT s) M) : Sf (mX6_isSymmetric 0 M) (pI (0) (1)) := by
  unfold mX6_isSymmetric
  refine Sf.c (sX1_isSameFromOtherEnd isP_5 h_M) (fun r2 p_1 => ?_)
  obtain ⟨p_1a, p_1b⟩ := p_1
  refine Sf.k (isB_in ⟨by omega, by omega⟩) ?_
  have z_2 : (0 : Int) ≤ (r2).toInt ∧ (r2).toInt ≤ 1 := ⟨by omega, by omega⟩
  exact Sf.ok z_2
set_option maxHeartbeats 2000000 in
theorem sX6_longestLeg_b49 {s : Nat → Int × Int} {M : Mem} {ih4 : Int32 → Int32 → Option Int32} {x1 : Int32} {x2 : Int32} {d4 : Nat} (h_M : OKb (fT s) M) (hx1 : (0 : Int) ≤ (x1).toInt ∧ (x1).toInt ≤ 8) (hx2 : (0 : Int) ≤ (x2).toInt ∧ (x2).toInt ≤ 8) (he0 : (1 : Int) ≤ (rd M 5 0).toInt ∧ (rd M 5 0).toInt ≤ 9) (hih4 : ∀ (yx1 : Int32) (yx2 : Int32), ((-1 : Int) ≤ (yx1).toInt ∧ (yx1).toInt ≤ 8) → ((0 : Int) ≤ (yx2).toInt ∧ (yx2).toInt ≤ 9) → 9 - (yx2).toInt < d4 → Sf (ih4 yx1 yx2) (pI (-1) (8))) (hmu4 : 9 - (x2).toInt ≤ d4) : Sf (mX6_longestLeg_b49 0 M ih4 x1 x2) (pI (-1) (8)) := by
  unfold mX6_longestLeg_b49
  have n_1 : ((1 : Int32)).toInt = 1 := rfl
  try have a_2 : ((x2 + (1 : Int32))).toInt = (x2).toInt + ((1 : Int32)).toInt := i_add (by omega) (by omega)
  refine Sf.b (fun x2_49 e_x2_49 => ?_)
  have d_x2_49 := congrArg Int32.toInt e_x2_49
  exact (hih4 _ _ ⟨by omega, by omega⟩ ⟨by omega, by omega⟩ (by omega))
set_option maxHeartbeats 2000000 in
theorem sX6_longestLeg_b47 {s : Nat → Int × Int} {M : Mem} {ih4 : Int32 → Int32 → Option Int32} {x2 : Int32} {d4 : Nat} (h_M : OKb (fT s) M) (hx2 : (0 : Int) ≤ (x2).toInt ∧ (x2).toInt ≤ 8) (he0 : (1 : Int) ≤ (rd M 5 0).toInt ∧ (rd M 5 0).toInt ≤ 9) (hih4 : ∀ (yx1 : Int32) (yx2 : Int32), ((-1 : Int) ≤ (yx1).toInt ∧ (yx1).toInt ≤ 8) → ((0 : Int) ≤ (yx2).toInt ∧ (yx2).toInt ≤ 9) → 9 - (yx2).toInt < d4 → Sf (ih4 yx1 yx2) (pI (-1) (8))) (hmu4 : 9 - (x2).toInt ≤ d4) : Sf (mX6_longestLeg_b47 0 M ih4 x2) (pI (-1) (8)) := by
  unfold mX6_longestLeg_b47
  have b_1 : (0 : Int) ≤ (rd M 5 0).toInt ∧ (rd M 5 0).toInt ≤ 9 := h_M.at rfl
  exact (sX6_longestLeg_b49 h_M ⟨by omega, by omega⟩ ⟨by omega, by omega⟩ ⟨by omega, by omega⟩ hih4 (by omega))
set_option maxHeartbeats 2000000 in
theorem sX6_longestLeg_b4 {s : Nat → Int × Int} {M : Mem} {ih4 : Int32 → Int32 → Option Int32} {x1 : Int32} {x2 : Int32} {d4 : Nat} (h_M : OKb (fT s) M) (hx1 : (-1 : Int) ≤ (x1).toInt ∧ (x1).toInt ≤ 8) (hx2 : (0 : Int) ≤ (x2).toInt ∧ (x2).toInt ≤ 9) (hih4 : ∀ (yx1 : Int32) (yx2 : Int32), ((-1 : Int) ≤ (yx1).toInt ∧ (yx1).toInt ≤ 8) → ((0 : Int) ≤ (yx2).toInt ∧ (yx2).toInt ≤ 9) → 9 - (yx2).toInt < d4 → Sf (ih4 yx1 yx2) (pI (-1) (8))) (hmu4 : 9 - (x2).toInt ≤ d4) : Sf (mX6_longestLeg_b4 0 M ih4 x1 x2) (pI (-1) (8)) := by
  unfold mX6_longestLeg_b4
  have b_1 : (0 : Int) ≤ (rd M 5 0).toInt ∧ (rd M 5 0).toInt ≤ 9 := h_M.at rfl
  refine Sf.i (fun c_2 => ?_) (fun c_2 => ?_)
  · have c_2 := i_le.mp c_2
    have z_3 : (-1 : Int) ≤ (x1).toInt ∧ (x1).toInt ≤ 8 := ⟨by omega, by omega⟩
    exact Sf.ok z_3
  · have c_2 := i_nle c_2
    have n_4 : ((9 : Int32)).toInt = 9 := rfl
    refine Sf.i (fun c_5 => ?_) (fun c_5 => ?_)
    · have c_5 := i_le.mp c_5
      exfalso; omega
    · have c_5 := i_nle c_5
      have n_6 : (((-1) : Int32)).toInt = -1 := rfl
      refine Sf.i (fun c_7 => ?_) (fun c_7 => ?_)
      · have c_7 := i_eq.mp c_7
        exact (sX6_longestLeg_b47 h_M ⟨by omega, by omega⟩ ⟨by omega, by omega⟩ hih4 (by omega))
      · have c_7 := i_ne c_7
        refine Sf.k (ok_in (by omega) (by omega)) ?_
        refine Sf.k (ok_in (by omega) (by omega)) ?_
        have b_8 : (0 : Int) ≤ (rd M (5 + 1) ((x2).toNatClampNeg)).toInt ∧ (rd M (5 + 1) ((x2).toNatClampNeg)).toInt ≤ 9999 := h_M.at rfl
        have b_9 : (0 : Int) ≤ (rd M (5 + 1) ((x1).toNatClampNeg)).toInt ∧ (rd M (5 + 1) ((x1).toNatClampNeg)).toInt ≤ 9999 := h_M.at rfl
        refine Sf.i (fun c_10 => ?_) (fun c_10 => ?_)
        · have c_10 := i_le.mp c_10
          exact (sX6_longestLeg_b49 h_M ⟨by omega, by omega⟩ ⟨by omega, by omega⟩ ⟨by omega, by omega⟩ hih4 (by omega))
        · have c_10 := i_nle c_10
          exact (sX6_longestLeg_b47 h_M ⟨by omega, by omega⟩ ⟨by omega, by omega⟩ hih4 (by omega))
theorem sX6_longestLeg_l4_n {s : Nat → Int × Int}  {M : Mem}  (h_M : OKb (fT s) M)   : ∀ (n : Nat) (x1 : Int32) (x2 : Int32) (hx1 : (-1 : Int) ≤ (x1).toInt ∧ (x1).toInt ≤ 8) (hx2 : (0 : Int) ≤ (x2).toInt ∧ (x2).toInt ≤ 9)   (hmu : 9 - (x2).toInt < n), Sf (mX6_longestLeg_l4 0 M n x1 x2) (pI (-1) (8)) := by
  intro n
  induction n with
  | zero => intro x1 x2 hx1 hx2 hmu; exfalso; omega
  | succ n IH => intro x1 x2 hx1 hx2 hmu; exact sX6_longestLeg_b4  h_M hx1 hx2    IH (by omega)
theorem sX6_longestLeg_l4 {s : Nat → Int × Int}  {M : Mem} {x1 : Int32} {x2 : Int32}  (h_M : OKb (fT s) M) (hx1 : (-1 : Int) ≤ (x1).toInt ∧ (x1).toInt ≤ 8) (hx2 : (0 : Int) ≤ (x2).toInt ∧ (x2).toInt ≤ 9)    (hmu : 9 - (x2).toInt < 5000) : Sf (mX6_longestLeg_l4 0 M 5000 x1 x2) (pI (-1) (8)) :=
  sX6_longestLeg_l4_n  h_M   5000 _ _ hx1 hx2   hmu
set_option maxHeartbeats 2000000 in
theorem sX6_longestLeg {s : Nat → Int × Int} {M : Mem} (h_M : OKb (fT s) M) : Sf (mX6_longestLeg 0 M) (pI (-1) (8)) := by
  unfold mX6_longestLeg
  have n_1 : (((-1) : Int32)).toInt = -1 := rfl
  have n_2 : ((0 : Int32)).toInt = 0 := rfl
  exact (sX6_longestLeg_l4 h_M ⟨by omega, by omega⟩ ⟨by omega, by omega⟩ (by omega))
set_option maxHeartbeats 2000000 in
theorem sX6_made {s : Nat → Int × Int} {M : Mem} (h_M : OKb (fT s) M) : Sf (mX6_made 0 M) (pI (0) (255)) := by
  unfold mX6_made
  have b_1 : (0 : Int) ≤ (rd M 5 13).toInt ∧ (rd M 5 13).toInt ≤ 255 := h_M.at rfl
  have z_2 : (0 : Int) ≤ ((rd M 5 13)).toInt ∧ ((rd M 5 13)).toInt ≤ 255 := ⟨by omega, by omega⟩
  exact Sf.ok z_2
set_option maxHeartbeats 2000000 in
theorem sX6_steps {s : Nat → Int × Int} {M : Mem} (h_M : OKb (fT s) M) : Sf (mX6_steps 0 M) (pI (0) (8)) := by
  unfold mX6_steps
  have b_1 : (0 : Int) ≤ (rd M 5 14).toInt ∧ (rd M 5 14).toInt ≤ 8 := h_M.at rfl
  have z_2 : (0 : Int) ≤ ((rd M 5 14)).toInt ∧ ((rd M 5 14)).toInt ≤ 8 := ⟨by omega, by omega⟩
  exact Sf.ok z_2
set_option maxHeartbeats 2000000 in
theorem sX6_step_b21 {s : Nat → Int × Int} {M : Mem} (h_M : OKb (fT s) M) : Sf (mX6_step_b21 0 M) (pX (fT s) (rI (-2147483648) (2147483647)) [0, 1]) := by
  unfold mX6_step_b21
  exact Sf.ok ⟨h_M, show (1 : Nat) ∈ [0, 1] from by decide⟩
set_option maxHeartbeats 2000000 in
theorem sX6_step {s : Nat → Int × Int} {x1 : Int32} {x2 : Int32} {M : Mem} (h_M : OKb (fT s) M) : Sf (mX6_step 0 x1 x2 M) (pX (fT s) (rI (-2147483648) (2147483647)) [0, 1]) := by
  unfold mX6_step
  have n_1 : ((0 : Int32)).toInt = 0 := rfl
  refine Sf.i (fun c_2 => ?_) (fun c_2 => ?_)
  · have c_2 := i_lt.mp c_2
    exact (sX6_step_b21 h_M)
  · have c_2 := i_nlt c_2
    have b_3 : (0 : Int) ≤ (rd M 5 14).toInt ∧ (rd M 5 14).toInt ≤ 8 := h_M.at rfl
    refine Sf.i (fun c_4 => ?_) (fun c_4 => ?_)
    · have c_4 := i_le.mp c_4
      exact (sX6_step_b21 h_M)
    · have c_4 := i_nle c_4
      have n_5 : ((8 : Int32)).toInt = 8 := rfl
      refine Sf.i (fun c_6 => ?_) (fun c_6 => ?_)
      · have c_6 := i_lt.mp c_6
        have n_7 : ((3 : Int32)).toInt = 3 := rfl
        refine Sf.x (sX6_requireChoice h_M ⟨by omega, by omega⟩) (fun M6 _ p_8 => ?_) (fun M e h => ⟨h.1, mem_sub (by decide) h.2⟩)
        have h_M6 : OKb (fT s) M6 := p_8.1
        have p_8h : ((0 : Int) ≤ (x2).toInt ∧ (x2).toInt ≤ ((3 : Int32)).toInt) := p_8.2
        have n_9 : ((0 : Int32)).toInt = 0 := rfl
        refine Sf.i (fun c_10 => ?_) (fun c_10 => ?_)
        · have c_10 := i_eq.mp c_10
          refine Sf.k (ok_in (by omega) (by omega)) ?_
          exact Sf.ok ⟨h_M6, (i_rng _)⟩
        · have c_10 := i_ne c_10
          have n_11 : ((1 : Int32)).toInt = 1 := rfl
          refine Sf.i (fun c_12 => ?_) (fun c_12 => ?_)
          · have c_12 := i_eq.mp c_12
            refine Sf.k (ok_in (by omega) (by omega)) ?_
            exact Sf.ok ⟨h_M6, (i_rng _)⟩
          · have c_12 := i_ne c_12
            have n_13 : ((2 : Int32)).toInt = 2 := rfl
            refine Sf.i (fun c_14 => ?_) (fun c_14 => ?_)
            · have c_14 := i_eq.mp c_14
              refine Sf.k (ok_in (by omega) (by omega)) ?_
              exact Sf.ok ⟨h_M6, (i_rng _)⟩
            · have c_14 := i_ne c_14
              refine Sf.k (ok_in (by omega) (by omega)) ?_
              exact Sf.ok ⟨h_M6, (i_rng _)⟩
      · have c_6 := i_nlt c_6
        exfalso; omega
set_option maxHeartbeats 2000000 in
theorem sX6_costSoFar {s : Nat → Int × Int} {M : Mem} (h_M : OKb (fT s) M) : Sf (mX6_costSoFar 0 M) (pI (-2147483648) (2147483647)) := by
  unfold mX6_costSoFar
  refine Sf.c (sX1_sumOfCosts isP_5 h_M) (fun r2 p_1 => ?_)
  obtain ⟨p_1a, p_1b⟩ := p_1
  exact Sf.ok (i_rng _)
set_option maxHeartbeats 2000000 in
theorem sX6_requireStep {s : Nat → Int × Int} {x1 : Int32} {x2 : Int32} {M : Mem} (h_M : OKb (fT s) M) : Sf (mX6_requireStep 0 x1 x2 M) (pX (fT s) (fun _ => ((0 : Int) ≤ (x1).toInt ∧ (x1).toInt ≤ 7) ∧ ((0 : Int) ≤ (x2).toInt ∧ (x2).toInt ≤ 1)) [0, 1]) := by
  unfold mX6_requireStep
  refine Sf.x (sX6_requireBend h_M) (fun M3 _ p_1 => ?_) (fun M e h => ⟨h.1, mem_sub (by decide) h.2⟩)
  have h_M3 : OKb (fT s) M3 := p_1.1
  have p_1h : ((0 : Int) ≤ (x1).toInt ∧ (x1).toInt ≤ 7) := p_1.2
  have n_2 : ((1 : Int32)).toInt = 1 := rfl
  refine Sf.x (sX6_requireChoice h_M3 ⟨by omega, by omega⟩) (fun M7 _ p_3 => ?_) (fun M e h => ⟨h.1, mem_sub (by decide) h.2⟩)
  have h_M7 : OKb (fT s) M7 := p_3.1
  have p_3h : ((0 : Int) ≤ (x2).toInt ∧ (x2).toInt ≤ ((1 : Int32)).toInt) := p_3.2
  exact Sf.ok ⟨h_M7, by omega⟩
set_option maxHeartbeats 2000000 in
theorem sX6_reasonNow {s : Nat → Int × Int} {x1 : Int32} {M : Mem} (h_M : OKb (fT s) M) (hx1 : (0 : Int) ≤ (x1).toInt ∧ (x1).toInt ≤ 15) : Sf (mX6_reasonNow 0 x1 M) (pMI (fT s) (0) (6)) := by
  unfold mX6_reasonNow
  have b_1 : (0 : Int) ≤ (rd M 5 13).toInt ∧ (rd M 5 13).toInt ≤ 255 := h_M.at rfl
  refine Sf.m (sX2_reasonFor isL_103 isP_5 h_M ⟨by omega, by omega⟩ ⟨by omega, by omega⟩) (fun M3 r2 p_2 => ?_)
  have h_M3 : OKb (fT s) M3 := p_2.1
  have p_2 : (0 : Int) ≤ (r2).toInt ∧ (r2).toInt ≤ (6 : Int) := p_2.2
  have z_3 : (0 : Int) ≤ (r2).toInt ∧ (r2).toInt ≤ 6 := ⟨by omega, by omega⟩
  exact Sf.ok ⟨h_M3, z_3⟩
set_option maxHeartbeats 2000000 in
theorem sX6_reason {s : Nat → Int × Int} {x1 : Int32} {x2 : Int32} {M : Mem} (h_M : OKb (fT s) M) : Sf (mX6_reason 0 x1 x2 M) (pX (fT s) (rI (0) (6)) [0, 1]) := by
  unfold mX6_reason
  refine Sf.x (sX6_requireStep h_M) (fun M3 _ p_1 => ?_) (fun M e h => ⟨h.1, h.2⟩)
  have h_M3 : OKb (fT s) M3 := p_1.1
  have p_1h : ((0 : Int) ≤ (x1).toInt ∧ (x1).toInt ≤ 7) ∧ ((0 : Int) ≤ (x2).toInt ∧ (x2).toInt ≤ 1) := p_1.2
  have n_2 : ((2 : Int32)).toInt = 2 := rfl
  try have a_3 : (((2 : Int32) * x1)).toInt = 2 * (x1).toInt := i_mulc (by omega) (by omega) (by omega)
  try have a_4 : ((((2 : Int32) * x1) + x2)).toInt = (((2 : Int32) * x1)).toInt + (x2).toInt := i_add (by omega) (by omega)
  refine Sf.m (sX6_reasonNow h_M3 ⟨by omega, by omega⟩) (fun M7 r6 p_5 => ?_)
  have h_M7 : OKb (fT s) M7 := p_5.1
  have p_5 : (0 : Int) ≤ (r6).toInt ∧ (r6).toInt ≤ (6 : Int) := p_5.2
  have z_6 : (0 : Int) ≤ (r6).toInt ∧ (r6).toInt ≤ 6 := ⟨by omega, by omega⟩
  exact Sf.ok ⟨h_M7, z_6⟩
set_option maxHeartbeats 2000000 in
theorem sX6_gaugeNow {s : Nat → Int × Int} {x1 : Int32} {M : Mem} (h_M : OKb (fT s) M) (hx1 : (0 : Int) ≤ (x1).toInt ∧ (x1).toInt ≤ 15) : Sf (mX6_gaugeNow 0 x1 M) (pMI (fT s) (0) (2147483647)) := by
  unfold mX6_gaugeNow
  have b_1 : (0 : Int) ≤ (rd M 5 13).toInt ∧ (rd M 5 13).toInt ≤ 255 := h_M.at rfl
  refine Sf.m (sX2_layStep isL_103 isP_5 h_M ⟨by omega, by omega⟩ ⟨by omega, by omega⟩) (fun M3 _ h_M3 => ?_)
  have h_M3 : OKb (fT s) M3 := h_M3
  refine Sf.c (sX2_reachToBack isL_103 h_M3) (fun r5 p_3 => ?_)
  obtain ⟨p_3a, p_3b⟩ := p_3
  have z_4 : (0 : Int) ≤ (r5).toInt ∧ (r5).toInt ≤ 2147483647 := ⟨by omega, by omega⟩
  exact Sf.ok ⟨h_M3, z_4⟩
set_option maxHeartbeats 2000000 in
theorem sX6_gauge {s : Nat → Int × Int} {x1 : Int32} {x2 : Int32} {M : Mem} (h_M : OKb (fT s) M) : Sf (mX6_gauge 0 x1 x2 M) (pX (fT s) (rI (0) (2147483647)) [0, 1]) := by
  unfold mX6_gauge
  refine Sf.x (sX6_requireStep h_M) (fun M3 _ p_1 => ?_) (fun M e h => ⟨h.1, h.2⟩)
  have h_M3 : OKb (fT s) M3 := p_1.1
  have p_1h : ((0 : Int) ≤ (x1).toInt ∧ (x1).toInt ≤ 7) ∧ ((0 : Int) ≤ (x2).toInt ∧ (x2).toInt ≤ 1) := p_1.2
  have n_2 : ((2 : Int32)).toInt = 2 := rfl
  try have a_3 : (((2 : Int32) * x1)).toInt = 2 * (x1).toInt := i_mulc (by omega) (by omega) (by omega)
  try have a_4 : ((((2 : Int32) * x1) + x2)).toInt = (((2 : Int32) * x1)).toInt + (x2).toInt := i_add (by omega) (by omega)
  refine Sf.m (sX6_gaugeNow h_M3 ⟨by omega, by omega⟩) (fun M7 r6 p_5 => ?_)
  have h_M7 : OKb (fT s) M7 := p_5.1
  have p_5 : (0 : Int) ≤ (r6).toInt ∧ (r6).toInt ≤ (2147483647 : Int) := p_5.2
  have z_6 : (0 : Int) ≤ (r6).toInt ∧ (r6).toInt ≤ 2147483647 := ⟨by omega, by omega⟩
  exact Sf.ok ⟨h_M7, z_6⟩
set_option maxHeartbeats 2000000 in
theorem sX6_corner {s : Nat → Int × Int} {x1 : Int32} {x2 : Int32} {x3 : Int32} {x4 : Int32} {M : Mem} (h_M : OKb (fT s) M) : Sf (mX6_corner 0 x1 x2 x3 x4 M) (pX (fT s) (rI (-2147483648) (2147483647)) [0, 1]) := by
  unfold mX6_corner
  refine Sf.x (sX6_requireBend h_M) (fun M3 _ p_1 => ?_) (fun M e h => ⟨h.1, mem_sub (by decide) h.2⟩)
  have h_M3 : OKb (fT s) M3 := p_1.1
  have p_1h : ((0 : Int) ≤ (x1).toInt ∧ (x1).toInt ≤ 7) := p_1.2
  refine Sf.x (sX6_requireLeg h_M3) (fun M7 _ p_2 => ?_) (fun M e h => ⟨h.1, mem_sub (by decide) h.2⟩)
  have h_M7 : OKb (fT s) M7 := p_2.1
  have p_2h : ((0 : Int) ≤ (x3).toInt ∧ (x3).toInt ≤ 8) := p_2.2
  have n_3 : ((1 : Int32)).toInt = 1 := rfl
  refine Sf.x (sX6_requireChoice h_M7 ⟨by omega, by omega⟩) (fun M11 _ p_4 => ?_) (fun M e h => ⟨h.1, mem_sub (by decide) h.2⟩)
  have h_M11 : OKb (fT s) M11 := p_4.1
  have p_4h : ((0 : Int) ≤ (x2).toInt ∧ (x2).toInt ≤ ((1 : Int32)).toInt) := p_4.2
  refine Sf.x (sX6_requireChoice h_M11 ⟨by omega, by omega⟩) (fun M15 _ p_5 => ?_) (fun M e h => ⟨h.1, mem_sub (by decide) h.2⟩)
  have h_M15 : OKb (fT s) M15 := p_5.1
  have p_5h : ((0 : Int) ≤ (x4).toInt ∧ (x4).toInt ≤ ((1 : Int32)).toInt) := p_5.2
  have b_6 : (0 : Int) ≤ (rd M15 5 13).toInt ∧ (rd M15 5 13).toInt ≤ 255 := h_M15.at rfl
  have n_7 : ((2 : Int32)).toInt = 2 := rfl
  try have a_8 : (((2 : Int32) * x1)).toInt = 2 * (x1).toInt := i_mulc (by omega) (by omega) (by omega)
  try have a_9 : ((((2 : Int32) * x1) + x2)).toInt = (((2 : Int32) * x1)).toInt + (x2).toInt := i_add (by omega) (by omega)
  refine Sf.m (sX2_layStep isL_103 isP_5 h_M15 ⟨by omega, by omega⟩ ⟨by omega, by omega⟩) (fun M19 _ h_M19 => ?_)
  have h_M19 : OKb (fT s) M19 := h_M19
  have n_11 : ((0 : Int32)).toInt = 0 := rfl
  refine Sf.i (fun c_12 => ?_) (fun c_12 => ?_)
  · have c_12 := i_eq.mp c_12
    refine Sf.k (ok_in (by omega) (by omega)) ?_
    exact Sf.ok ⟨h_M19, (i_rng _)⟩
  · have c_12 := i_ne c_12
    refine Sf.k (ok_in (by omega) (by omega)) ?_
    exact Sf.ok ⟨h_M19, (i_rng _)⟩
set_option maxHeartbeats 2000000 in
theorem sX6_top {s : Nat → Int × Int} {x1 : Int32} {x2 : Int32} {M : Mem} (h_M : OKb (fT s) M) : Sf (mX6_top 0 x1 x2 M) (pX (fT s) (rI (0) (2147483647)) [0, 1]) := by
  unfold mX6_top
  refine Sf.x (sX6_requireStep h_M) (fun M3 _ p_1 => ?_) (fun M e h => ⟨h.1, h.2⟩)
  have h_M3 : OKb (fT s) M3 := p_1.1
  have p_1h : ((0 : Int) ≤ (x1).toInt ∧ (x1).toInt ≤ 7) ∧ ((0 : Int) ≤ (x2).toInt ∧ (x2).toInt ≤ 1) := p_1.2
  have b_2 : (0 : Int) ≤ (rd M3 5 13).toInt ∧ (rd M3 5 13).toInt ≤ 255 := h_M3.at rfl
  have n_3 : ((2 : Int32)).toInt = 2 := rfl
  try have a_4 : (((2 : Int32) * x1)).toInt = 2 * (x1).toInt := i_mulc (by omega) (by omega) (by omega)
  try have a_5 : ((((2 : Int32) * x1) + x2)).toInt = (((2 : Int32) * x1)).toInt + (x2).toInt := i_add (by omega) (by omega)
  refine Sf.m (sX2_layStep isL_103 isP_5 h_M3 ⟨by omega, by omega⟩ ⟨by omega, by omega⟩) (fun M7 _ h_M7 => ?_)
  have h_M7 : OKb (fT s) M7 := h_M7
  refine Sf.c (sX2_topOfFreeSide isL_103 h_M7) (fun r9 p_7 => ?_)
  obtain ⟨p_7a, p_7b⟩ := p_7
  have z_8 : (0 : Int) ≤ (r9).toInt ∧ (r9).toInt ≤ 2147483647 := ⟨by omega, by omega⟩
  exact Sf.ok ⟨h_M7, z_8⟩
set_option maxHeartbeats 2000000 in
theorem sX6_hitting {s : Nat → Int × Int} {x1 : Int32} {x2 : Int32} {M : Mem} (h_M : OKb (fT s) M) : Sf (mX6_hitting 0 x1 x2 M) (pX (fT s) (rI (0) (4095)) [0, 1]) := by
  unfold mX6_hitting
  refine Sf.x (sX6_requireStep h_M) (fun M3 _ p_1 => ?_) (fun M e h => ⟨h.1, h.2⟩)
  have h_M3 : OKb (fT s) M3 := p_1.1
  have p_1h : ((0 : Int) ≤ (x1).toInt ∧ (x1).toInt ≤ 7) ∧ ((0 : Int) ≤ (x2).toInt ∧ (x2).toInt ≤ 1) := p_1.2
  have b_2 : (0 : Int) ≤ (rd M3 5 13).toInt ∧ (rd M3 5 13).toInt ≤ 255 := h_M3.at rfl
  have n_3 : ((2 : Int32)).toInt = 2 := rfl
  try have a_4 : (((2 : Int32) * x1)).toInt = 2 * (x1).toInt := i_mulc (by omega) (by omega) (by omega)
  try have a_5 : ((((2 : Int32) * x1) + x2)).toInt = (((2 : Int32) * x1)).toInt + (x2).toInt := i_add (by omega) (by omega)
  refine Sf.m (sX2_layStep isL_103 isP_5 h_M3 ⟨by omega, by omega⟩ ⟨by omega, by omega⟩) (fun M7 _ h_M7 => ?_)
  have h_M7 : OKb (fT s) M7 := h_M7
  refine Sf.c (sX2_legsHitting isL_103 isP_5 h_M7) (fun r9 p_7 => ?_)
  obtain ⟨p_7a, p_7b⟩ := p_7
  have z_8 : (0 : Int) ≤ (r9).toInt ∧ (r9).toInt ≤ 4095 := ⟨by omega, by omega⟩
  exact Sf.ok ⟨h_M7, z_8⟩
set_option maxHeartbeats 2000000 in
theorem sX6_refused_b11 {s : Nat → Int × Int} {M : Mem} (h_M : OKb (fT s) M) : Sf (mX6_refused_b11 0 M) (pX (fT s) (rI (-2147483648) (2147483647)) [0]) := by
  unfold mX6_refused_b11
  exact Sf.ok ⟨h_M, show (0 : Nat) ∈ [0] from by decide⟩
set_option maxHeartbeats 2000000 in
theorem sX6_refused_b50 {s : Nat → Int × Int} {ih25 : Int32 → Int32 → Int32 → Mem → Option (Mem × (Int32 ⊕ Nat))} {x1 : Int32} {x2 : Int32} {x3 : Int32} {M : Mem} {d25 : Nat} (h_M : OKb (fT s) M) (hx1 : (1 : Int) ≤ (x1).toInt ∧ (x1).toInt ≤ 6) (hx3 : (0 : Int) ≤ (x3).toInt ∧ (x3).toInt ≤ 15) (hih25 : ∀ (yx1 : Int32) (yx2 : Int32) (yx3 : Int32) (M : Mem), OKb (fT s) M → ((1 : Int) ≤ (yx1).toInt ∧ (yx1).toInt ≤ 6) → ((0 : Int) ≤ (yx3).toInt ∧ (yx3).toInt ≤ 16) → 16 - (yx3).toInt < d25 → Sf (ih25 yx1 yx2 yx3 M) (pX (fT s) (rI (-2147483648) (2147483647)) [0])) (hmu25 : 16 - (x3).toInt ≤ d25) : Sf (mX6_refused_b50 0 ih25 x1 x2 x3 M) (pX (fT s) (rI (-2147483648) (2147483647)) [0]) := by
  unfold mX6_refused_b50
  have n_1 : ((1 : Int32)).toInt = 1 := rfl
  try have a_2 : ((x3 + (1 : Int32))).toInt = (x3).toInt + ((1 : Int32)).toInt := i_add (by omega) (by omega)
  refine Sf.b (fun x3_50 e_x3_50 => ?_)
  have d_x3_50 := congrArg Int32.toInt e_x3_50
  exact (hih25 _ _ _ _ h_M ⟨by omega, by omega⟩ ⟨by omega, by omega⟩ (by omega))
set_option maxHeartbeats 2000000 in
theorem sX6_refused_b25 {s : Nat → Int × Int} {ih25 : Int32 → Int32 → Int32 → Mem → Option (Mem × (Int32 ⊕ Nat))} {x1 : Int32} {x2 : Int32} {x3 : Int32} {M : Mem} {d25 : Nat} (h_M : OKb (fT s) M) (hx1 : (1 : Int) ≤ (x1).toInt ∧ (x1).toInt ≤ 6) (hx3 : (0 : Int) ≤ (x3).toInt ∧ (x3).toInt ≤ 16) (hih25 : ∀ (yx1 : Int32) (yx2 : Int32) (yx3 : Int32) (M : Mem), OKb (fT s) M → ((1 : Int) ≤ (yx1).toInt ∧ (yx1).toInt ≤ 6) → ((0 : Int) ≤ (yx3).toInt ∧ (yx3).toInt ≤ 16) → 16 - (yx3).toInt < d25 → Sf (ih25 yx1 yx2 yx3 M) (pX (fT s) (rI (-2147483648) (2147483647)) [0])) (hmu25 : 16 - (x3).toInt ≤ d25) : Sf (mX6_refused_b25 0 ih25 x1 x2 x3 M) (pX (fT s) (rI (-2147483648) (2147483647)) [0]) := by
  unfold mX6_refused_b25
  refine Sf.c (sX1_bendCount isP_5 h_M) (fun r4 p_1 => ?_)
  obtain ⟨p_1a, p_1b⟩ := p_1
  have n_2 : ((2 : Int32)).toInt = 2 := rfl
  try have a_3 : (((2 : Int32) * r4)).toInt = 2 * (r4).toInt := i_mulc (by omega) (by omega) (by omega)
  refine Sf.i (fun c_4 => ?_) (fun c_4 => ?_)
  · have c_4 := i_le.mp c_4
    exact Sf.ok ⟨h_M, (i_rng _)⟩
  · have c_4 := i_nle c_4
    refine Sf.m (sX6_reasonNow h_M ⟨by omega, by omega⟩) (fun M9 r8 p_5 => ?_)
    have h_M9 : OKb (fT s) M9 := p_5.1
    have p_5 : (0 : Int) ≤ (r8).toInt ∧ (r8).toInt ≤ (6 : Int) := p_5.2
    refine Sf.i (fun c_6 => ?_) (fun c_6 => ?_)
    · have c_6 := i_eq.mp c_6
      have n_7 : ((1 : Int32)).toInt = 1 := rfl
      refine Sf.b (fun x2_47 e_x2_47 => ?_)
      have d_x2_47 := congrArg Int32.toInt e_x2_47
      exact (sX6_refused_b50 h_M9 ⟨by omega, by omega⟩ ⟨by omega, by omega⟩ hih25 (by omega))
    · have c_6 := i_ne c_6
      exact (sX6_refused_b50 h_M9 ⟨by omega, by omega⟩ ⟨by omega, by omega⟩ hih25 (by omega))
theorem sX6_refused_l25_n {s : Nat → Int × Int}    : ∀ (n : Nat) (x1 : Int32) (x2 : Int32) (x3 : Int32) (M : Mem) (h_M : OKb (fT s) M) (hx1 : (1 : Int) ≤ (x1).toInt ∧ (x1).toInt ≤ 6) (hx3 : (0 : Int) ≤ (x3).toInt ∧ (x3).toInt ≤ 16)    (hmu : 16 - (x3).toInt < n), Sf (mX6_refused_l25 0 n x1 x2 x3 M) (pX (fT s) (rI (-2147483648) (2147483647)) [0]) := by
  intro n
  induction n with
  | zero => intro x1 x2 x3 M h_M hx1 hx3 hmu; exfalso; omega
  | succ n IH => intro x1 x2 x3 M h_M hx1 hx3 hmu; exact sX6_refused_b25  h_M hx1 hx3    IH (by omega)
theorem sX6_refused_l25 {s : Nat → Int × Int}  {x1 : Int32} {x2 : Int32} {x3 : Int32} {M : Mem}  (h_M : OKb (fT s) M) (hx1 : (1 : Int) ≤ (x1).toInt ∧ (x1).toInt ≤ 6) (hx3 : (0 : Int) ≤ (x3).toInt ∧ (x3).toInt ≤ 16)    (hmu : 16 - (x3).toInt < 5000) : Sf (mX6_refused_l25 0 5000 x1 x2 x3 M) (pX (fT s) (rI (-2147483648) (2147483647)) [0]) :=
  sX6_refused_l25_n   5000 _ _ _ M h_M hx1 hx3    hmu
set_option maxHeartbeats 2000000 in
theorem sX6_refused {s : Nat → Int × Int} {x1 : Int32} {M : Mem} (h_M : OKb (fT s) M) : Sf (mX6_refused 0 x1 M) (pX (fT s) (rI (-2147483648) (2147483647)) [0]) := by
  unfold mX6_refused
  have n_1 : ((1 : Int32)).toInt = 1 := rfl
  refine Sf.i (fun c_2 => ?_) (fun c_2 => ?_)
  · have c_2 := i_lt.mp c_2
    exact (sX6_refused_b11 h_M)
  · have c_2 := i_nlt c_2
    have n_3 : ((6 : Int32)).toInt = 6 := rfl
    refine Sf.i (fun c_4 => ?_) (fun c_4 => ?_)
    · have c_4 := i_le.mp c_4
      have n_5 : ((0 : Int32)).toInt = 0 := rfl
      exact (sX6_refused_l25 h_M ⟨by omega, by omega⟩ ⟨by omega, by omega⟩ (by omega))
    · have c_4 := i_nle c_4
      exact (sX6_refused_b11 h_M)
set_option maxHeartbeats 2000000 in
theorem sX6_possible {s : Nat → Int × Int} {M : Mem} (h_M : OKb (fT s) M) : Sf (mX6_possible 0 M) (pMI (fT s) (0) (65535)) := by
  unfold mX6_possible
  have b_1 : (0 : Int) ≤ (rd M 5 13).toInt ∧ (rd M 5 13).toInt ≤ 255 := h_M.at rfl
  refine Sf.m (sX2_possibleSteps isL_103 isP_5 h_M ⟨by omega, by omega⟩) (fun M3 r2 p_2 => ?_)
  have h_M3 : OKb (fT s) M3 := p_2.1
  have p_2 : (0 : Int) ≤ (r2).toInt ∧ (r2).toInt ≤ (65535 : Int) := p_2.2
  have z_3 : (0 : Int) ≤ (r2).toInt ∧ (r2).toInt ≤ 65535 := ⟨by omega, by omega⟩
  exact Sf.ok ⟨h_M3, z_3⟩
set_option maxHeartbeats 2000000 in
theorem sX6_stuck_b73 {s : Nat → Int × Int} {ih23 : Int32 → Int32 → Int32 → Mem → Option (Mem × Int32)} {x1 : Int32} {x2 : Int32} {x3 : Int32} {M : Mem} {d23 : Nat} (h_M : OKb (fT s) M) (hx1 : (0 : Int) ≤ (x1).toInt ∧ (x1).toInt ≤ 65535) (hx3 : (0 : Int) ≤ (x3).toInt ∧ (x3).toInt ≤ 7) (hih23 : ∀ (yx1 : Int32) (yx2 : Int32) (yx3 : Int32) (M : Mem), OKb (fT s) M → ((0 : Int) ≤ (yx1).toInt ∧ (yx1).toInt ≤ 65535) → ((0 : Int) ≤ (yx3).toInt ∧ (yx3).toInt ≤ 8) → 8 - (yx3).toInt < d23 → Sf (ih23 yx1 yx2 yx3 M) (pMI (fT s) (-2147483648) (2147483647))) (hmu23 : 8 - (x3).toInt ≤ d23) : Sf (mX6_stuck_b73 0 ih23 x1 x2 x3 M) (pMI (fT s) (-2147483648) (2147483647)) := by
  unfold mX6_stuck_b73
  have n_1 : ((1 : Int32)).toInt = 1 := rfl
  try have a_2 : ((x3 + (1 : Int32))).toInt = (x3).toInt + ((1 : Int32)).toInt := i_add (by omega) (by omega)
  refine Sf.b (fun x3_73 e_x3_73 => ?_)
  have d_x3_73 := congrArg Int32.toInt e_x3_73
  exact (hih23 _ _ _ _ h_M ⟨by omega, by omega⟩ ⟨by omega, by omega⟩ (by omega))
set_option maxHeartbeats 2000000 in
theorem sX6_stuck_b53 {s : Nat → Int × Int} {ih23 : Int32 → Int32 → Int32 → Mem → Option (Mem × Int32)} {x1 : Int32} {x2 : Int32} {x3 : Int32} {y0 : Int32} {M : Mem} {d23 : Nat} (h_M : OKb (fT s) M) (hx1 : (0 : Int) ≤ (x1).toInt ∧ (x1).toInt ≤ 65535) (hx3 : (0 : Int) ≤ (x3).toInt ∧ (x3).toInt ≤ 7) (hy0 : (0 : Int) ≤ (y0).toInt ∧ (y0).toInt ≤ 1) (hih23 : ∀ (yx1 : Int32) (yx2 : Int32) (yx3 : Int32) (M : Mem), OKb (fT s) M → ((0 : Int) ≤ (yx1).toInt ∧ (yx1).toInt ≤ 65535) → ((0 : Int) ≤ (yx3).toInt ∧ (yx3).toInt ≤ 8) → 8 - (yx3).toInt < d23 → Sf (ih23 yx1 yx2 yx3 M) (pMI (fT s) (-2147483648) (2147483647))) (hmu23 : 8 - (x3).toInt ≤ d23) : Sf (mX6_stuck_b53 0 ih23 x1 x2 x3 y0 M) (pMI (fT s) (-2147483648) (2147483647)) := by
  unfold mX6_stuck_b53
  have n_1 : ((0 : Int32)).toInt = 0 := rfl
  refine Sf.i (fun c_2 => ?_) (fun c_2 => ?_)
  · have c_2 := i_eq.mp c_2
    try have a_3 := i_shr (a := x1) (b := ((2 : Int32) * x3)) (by omega)
    have n_4 : ((3 : Int32)).toInt = 3 := rfl
    try have a_5 := i_and (a := (x1 >>> (((2 : Int32) * x3) &&& 31))) (b := (3 : Int32)) (by omega)
    try have a_6 := i_andr (a := (x1 >>> (((2 : Int32) * x3) &&& 31))) (b := (3 : Int32)) (by omega)
    refine Sf.i (fun c_7 => ?_) (fun c_7 => ?_)
    · have c_7 := i_eq.mp c_7
      have n_8 : ((1 : Int32)).toInt = 1 := rfl
      refine Sf.b (fun x2_70 e_x2_70 => ?_)
      have d_x2_70 := congrArg Int32.toInt e_x2_70
      exact (sX6_stuck_b73 h_M ⟨by omega, by omega⟩ ⟨by omega, by omega⟩ hih23 (by omega))
    · have c_7 := i_ne c_7
      exact (sX6_stuck_b73 h_M ⟨by omega, by omega⟩ ⟨by omega, by omega⟩ hih23 (by omega))
  · have c_2 := i_ne c_2
    exact (sX6_stuck_b73 h_M ⟨by omega, by omega⟩ ⟨by omega, by omega⟩ hih23 (by omega))
set_option maxHeartbeats 2000000 in
theorem sX6_stuck_b23 {s : Nat → Int × Int} {ih23 : Int32 → Int32 → Int32 → Mem → Option (Mem × Int32)} {x1 : Int32} {x2 : Int32} {x3 : Int32} {M : Mem} {d23 : Nat} (h_M : OKb (fT s) M) (hx1 : (0 : Int) ≤ (x1).toInt ∧ (x1).toInt ≤ 65535) (hx3 : (0 : Int) ≤ (x3).toInt ∧ (x3).toInt ≤ 8) (hih23 : ∀ (yx1 : Int32) (yx2 : Int32) (yx3 : Int32) (M : Mem), OKb (fT s) M → ((0 : Int) ≤ (yx1).toInt ∧ (yx1).toInt ≤ 65535) → ((0 : Int) ≤ (yx3).toInt ∧ (yx3).toInt ≤ 8) → 8 - (yx3).toInt < d23 → Sf (ih23 yx1 yx2 yx3 M) (pMI (fT s) (-2147483648) (2147483647))) (hmu23 : 8 - (x3).toInt ≤ d23) : Sf (mX6_stuck_b23 0 ih23 x1 x2 x3 M) (pMI (fT s) (-2147483648) (2147483647)) := by
  unfold mX6_stuck_b23
  refine Sf.c (sX1_bendCount isP_5 h_M) (fun r5 p_1 => ?_)
  obtain ⟨p_1a, p_1b⟩ := p_1
  refine Sf.i (fun c_2 => ?_) (fun c_2 => ?_)
  · have c_2 := i_le.mp c_2
    exact Sf.ok ⟨h_M, (i_rng _)⟩
  · have c_2 := i_nle c_2
    have b_3 : (0 : Int) ≤ (rd M 5 13).toInt ∧ (rd M 5 13).toInt ≤ 255 := h_M.at rfl
    try have a_4 := i_shr (a := (rd M 5 13)) (b := x3) (by omega)
    have n_5 : ((1 : Int32)).toInt = 1 := rfl
    try have a_6 := i_and (a := ((rd M 5 13) >>> (x3 &&& 31))) (b := (1 : Int32)) (by omega)
    try have a_7 := i_andr (a := ((rd M 5 13) >>> (x3 &&& 31))) (b := (1 : Int32)) (by omega)
    have n_8 : ((0 : Int32)).toInt = 0 := rfl
    refine Sf.i (fun c_9 => ?_) (fun c_9 => ?_)
    · have c_9 := i_eq.mp c_9
      have n_10 : ((0 : Int32)).toInt = 0 := rfl
      exact (sX6_stuck_b53 h_M ⟨by omega, by omega⟩ ⟨by omega, by omega⟩ ⟨by omega, by omega⟩ hih23 (by omega))
    · have c_9 := i_ne c_9
      exact (sX6_stuck_b53 h_M ⟨by omega, by omega⟩ ⟨by omega, by omega⟩ ⟨by omega, by omega⟩ hih23 (by omega))
theorem sX6_stuck_l23_n {s : Nat → Int × Int}    : ∀ (n : Nat) (x1 : Int32) (x2 : Int32) (x3 : Int32) (M : Mem) (h_M : OKb (fT s) M) (hx1 : (0 : Int) ≤ (x1).toInt ∧ (x1).toInt ≤ 65535) (hx3 : (0 : Int) ≤ (x3).toInt ∧ (x3).toInt ≤ 8)    (hmu : 8 - (x3).toInt < n), Sf (mX6_stuck_l23 0 n x1 x2 x3 M) (pMI (fT s) (-2147483648) (2147483647)) := by
  intro n
  induction n with
  | zero => intro x1 x2 x3 M h_M hx1 hx3 hmu; exfalso; omega
  | succ n IH => intro x1 x2 x3 M h_M hx1 hx3 hmu; exact sX6_stuck_b23  h_M hx1 hx3    IH (by omega)
theorem sX6_stuck_l23 {s : Nat → Int × Int}  {x1 : Int32} {x2 : Int32} {x3 : Int32} {M : Mem}  (h_M : OKb (fT s) M) (hx1 : (0 : Int) ≤ (x1).toInt ∧ (x1).toInt ≤ 65535) (hx3 : (0 : Int) ≤ (x3).toInt ∧ (x3).toInt ≤ 8)    (hmu : 8 - (x3).toInt < 5000) : Sf (mX6_stuck_l23 0 5000 x1 x2 x3 M) (pMI (fT s) (-2147483648) (2147483647)) :=
  sX6_stuck_l23_n   5000 _ _ _ M h_M hx1 hx3    hmu
set_option maxHeartbeats 2000000 in
theorem sX6_stuck {s : Nat → Int × Int} {M : Mem} (h_M : OKb (fT s) M) : Sf (mX6_stuck 0 M) (pMI (fT s) (-2147483648) (2147483647)) := by
  unfold mX6_stuck
  have b_1 : (0 : Int) ≤ (rd M 5 13).toInt ∧ (rd M 5 13).toInt ≤ 255 := h_M.at rfl
  refine Sf.m (sX2_possibleSteps isL_103 isP_5 h_M ⟨by omega, by omega⟩) (fun M3 r2 p_2 => ?_)
  have h_M3 : OKb (fT s) M3 := p_2.1
  have p_2 : (0 : Int) ≤ (r2).toInt ∧ (r2).toInt ≤ (65535 : Int) := p_2.2
  have n_3 : ((0 : Int32)).toInt = 0 := rfl
  exact (sX6_stuck_l23 h_M3 ⟨by omega, by omega⟩ ⟨by omega, by omega⟩ (by omega))
set_option maxHeartbeats 2000000 in
theorem sX6_costNow {s : Nat → Int × Int} {x1 : Int32} {M : Mem} (h_M : OKb (fT s) M) (hx1 : (0 : Int) ≤ (x1).toInt ∧ (x1).toInt ≤ 15) : Sf (mX6_costNow 0 x1 M) (pMI (fT s) (0) (297)) := by
  unfold mX6_costNow
  refine Sf.c (sX1_lastCode isP_5 h_M) (fun r2 p_1 => ?_)
  obtain ⟨p_1a, p_1b⟩ := p_1
  refine Sf.c (sX1_lastGauge isP_5 h_M) (fun r5 p_2 => ?_)
  obtain ⟨p_2a, p_2b⟩ := p_2
  refine Sf.m (sX6_gaugeNow h_M ⟨by omega, by omega⟩) (fun M9 r8 p_3 => ?_)
  have h_M9 : OKb (fT s) M9 := p_3.1
  have p_3 : (0 : Int) ≤ (r8).toInt ∧ (r8).toInt ≤ (2147483647 : Int) := p_3.2
  have g_4 := i_rng r8
  refine Sf.c (sX1_priceBetween isP_5 h_M9 ⟨by omega, by omega⟩ ⟨by omega, by omega⟩ ⟨by omega, by omega⟩) (fun r11 p_5 => ?_)
  obtain ⟨p_5a, p_5b⟩ := p_5
  have z_6 : (0 : Int) ≤ (r11).toInt ∧ (r11).toInt ≤ 297 := ⟨by omega, by omega⟩
  exact Sf.ok ⟨h_M9, z_6⟩
set_option maxHeartbeats 2000000 in
theorem sX6_costOf {s : Nat → Int × Int} {x1 : Int32} {x2 : Int32} {M : Mem} (h_M : OKb (fT s) M) : Sf (mX6_costOf 0 x1 x2 M) (pX (fT s) (rI (0) (297)) [0, 1]) := by
  unfold mX6_costOf
  refine Sf.x (sX6_requireStep h_M) (fun M3 _ p_1 => ?_) (fun M e h => ⟨h.1, h.2⟩)
  have h_M3 : OKb (fT s) M3 := p_1.1
  have p_1h : ((0 : Int) ≤ (x1).toInt ∧ (x1).toInt ≤ 7) ∧ ((0 : Int) ≤ (x2).toInt ∧ (x2).toInt ≤ 1) := p_1.2
  have n_2 : ((2 : Int32)).toInt = 2 := rfl
  try have a_3 : (((2 : Int32) * x1)).toInt = 2 * (x1).toInt := i_mulc (by omega) (by omega) (by omega)
  try have a_4 : ((((2 : Int32) * x1) + x2)).toInt = (((2 : Int32) * x1)).toInt + (x2).toInt := i_add (by omega) (by omega)
  refine Sf.m (sX6_costNow h_M3 ⟨by omega, by omega⟩) (fun M7 r6 p_5 => ?_)
  have h_M7 : OKb (fT s) M7 := p_5.1
  have p_5 : (0 : Int) ≤ (r6).toInt ∧ (r6).toInt ≤ (297 : Int) := p_5.2
  have z_6 : (0 : Int) ≤ (r6).toInt ∧ (r6).toInt ≤ 297 := ⟨by omega, by omega⟩
  exact Sf.ok ⟨h_M7, z_6⟩
set_option maxHeartbeats 2000000 in
theorem sX6_orders {s : Nat → Int × Int} {M : Mem} (h_M : OKb (fT s) M) : Sf (mX6_orders 0 M) (pM (fT s)) := by
  unfold mX6_orders
  refine Sf.m (sX3_prepare isP_5 h_M) (fun M3 _ h_M3 => ?_)
  have h_M3 : OKb (fT s) M3 := h_M3
  have b_2 : (0 : Int) ≤ (rd M3 5 13).toInt ∧ (rd M3 5 13).toInt ≤ 255 := h_M3.at rfl
  refine Sf.c (sX3_ordersFrom h_M3 ⟨by omega, by omega⟩) (fun r5 _ => ?_)
  exact Sf.ok h_M3
set_option maxHeartbeats 2000000 in
theorem sX6_leastCost {s : Nat → Int × Int} {M : Mem} (h_M : OKb (fT s) M) : Sf (mX6_leastCost 0 M) (pMI (fT s) (-2147483648) (2147483647)) := by
  unfold mX6_leastCost
  refine Sf.m (sX3_prepare isP_5 h_M) (fun M3 _ h_M3 => ?_)
  have h_M3 : OKb (fT s) M3 := h_M3
  exact Sf.ok ⟨h_M3, (i_rng _)⟩
set_option maxHeartbeats 2000000 in
theorem sX6_plannedSteps {s : Nat → Int × Int} {M : Mem} (h_M : OKb (fT s) M) : Sf (mX6_plannedSteps 0 M) (pMI (fT s) (-1) (8)) := by
  unfold mX6_plannedSteps
  refine Sf.m (sX3_prepare isP_5 h_M) (fun M3 _ h_M3 => ?_)
  have h_M3 : OKb (fT s) M3 := h_M3
  have b_2 : (-1 : Int) ≤ (rd M3 110 3).toInt ∧ (rd M3 110 3).toInt ≤ 8 := h_M3.at rfl
  have z_3 : (-1 : Int) ≤ ((rd M3 110 3)).toInt ∧ ((rd M3 110 3)).toInt ≤ 8 := ⟨by omega, by omega⟩
  exact Sf.ok ⟨h_M3, z_3⟩
set_option maxHeartbeats 2000000 in
theorem sX6_planned_b32 {s : Nat → Int × Int} {M : Mem} (h_M : OKb (fT s) M) : Sf (mX6_planned_b32 0 M) (pX (fT s) (rI (0) (15)) [1]) := by
  unfold mX6_planned_b32
  exact Sf.ok ⟨h_M, show (1 : Nat) ∈ [1] from by decide⟩
set_option maxHeartbeats 2000000 in
theorem sX6_planned {s : Nat → Int × Int} {x1 : Int32} {M : Mem} (h_M : OKb (fT s) M) : Sf (mX6_planned 0 x1 M) (pX (fT s) (rI (0) (15)) [1]) := by
  unfold mX6_planned
  refine Sf.m (sX3_prepare isP_5 h_M) (fun M3 _ h_M3 => ?_)
  have h_M3 : OKb (fT s) M3 := h_M3
  have n_2 : ((0 : Int32)).toInt = 0 := rfl
  refine Sf.i (fun c_3 => ?_) (fun c_3 => ?_)
  · have c_3 := i_lt.mp c_3
    exact (sX6_planned_b32 h_M3)
  · have c_3 := i_nlt c_3
    have b_4 : (-1 : Int) ≤ (rd M3 110 3).toInt ∧ (rd M3 110 3).toInt ≤ 8 := h_M3.at rfl
    refine Sf.i (fun c_5 => ?_) (fun c_5 => ?_)
    · have c_5 := i_le.mp c_5
      exact (sX6_planned_b32 h_M3)
    · have c_5 := i_nle c_5
      have n_6 : ((8 : Int32)).toInt = 8 := rfl
      refine Sf.i (fun c_7 => ?_) (fun c_7 => ?_)
      · have c_7 := i_lt.mp c_7
        refine Sf.k (ok_in (by omega) (by omega)) ?_
        have b_8 : (0 : Int) ≤ (rd M3 (110 + 1) ((x1).toNatClampNeg)).toInt ∧ (rd M3 (110 + 1) ((x1).toNatClampNeg)).toInt ≤ 15 := h_M3.at rfl
        have z_9 : (0 : Int) ≤ ((rd M3 (110 + 1) ((x1).toNatClampNeg))).toInt ∧ ((rd M3 (110 + 1) ((x1).toNatClampNeg))).toInt ≤ 15 := ⟨by omega, by omega⟩
        exact Sf.ok ⟨h_M3, z_9⟩
      · have c_7 := i_nlt c_7
        exfalso; omega
set_option maxHeartbeats 2000000 in
theorem sX6_greatestCost {s : Nat → Int × Int} {M : Mem} (h_M : OKb (fT s) M) : Sf (mX6_greatestCost 0 M) (pMI (fT s) (-2147483648) (2147483647)) := by
  unfold mX6_greatestCost
  refine Sf.m (sX3_prepare isP_5 h_M) (fun M3 _ h_M3 => ?_)
  have h_M3 : OKb (fT s) M3 := h_M3
  exact Sf.ok ⟨h_M3, (i_rng _)⟩
set_option maxHeartbeats 2000000 in
theorem sX6_ordersWith {s : Nat → Int × Int} {x1 : Int32} {x2 : Int32} {M : Mem} (h_M : OKb (fT s) M) : Sf (mX6_ordersWith 0 x1 x2 M) (pX (fT s) rT [0, 1]) := by
  unfold mX6_ordersWith
  refine Sf.x (sX6_requireStep h_M) (fun M3 _ p_1 => ?_) (fun M e h => ⟨h.1, h.2⟩)
  have h_M3 : OKb (fT s) M3 := p_1.1
  have p_1h : ((0 : Int) ≤ (x1).toInt ∧ (x1).toInt ≤ 7) ∧ ((0 : Int) ≤ (x2).toInt ∧ (x2).toInt ≤ 1) := p_1.2
  have n_2 : ((2 : Int32)).toInt = 2 := rfl
  try have a_3 : (((2 : Int32) * x1)).toInt = 2 * (x1).toInt := i_mulc (by omega) (by omega) (by omega)
  try have a_4 : ((((2 : Int32) * x1) + x2)).toInt = (((2 : Int32) * x1)).toInt + (x2).toInt := i_add (by omega) (by omega)
  refine Sf.m (sX6_reasonNow h_M3 ⟨by omega, by omega⟩) (fun M7 r6 p_5 => ?_)
  have h_M7 : OKb (fT s) M7 := p_5.1
  have p_5 : (0 : Int) ≤ (r6).toInt ∧ (r6).toInt ≤ (6 : Int) := p_5.2
  have n_6 : ((0 : Int32)).toInt = 0 := rfl
  refine Sf.i (fun c_7 => ?_) (fun c_7 => ?_)
  · have c_7 := i_eq.mp c_7
    refine Sf.m (sX3_prepare isP_5 h_M7) (fun M11 _ h_M11 => ?_)
    have h_M11 : OKb (fT s) M11 := h_M11
    have b_9 : (0 : Int) ≤ (rd M11 5 13).toInt ∧ (rd M11 5 13).toInt ≤ 255 := h_M11.at rfl
    try have a_10 : 0 < (((1 : Int32) <<< (x1 &&& 31))).toInt ∧ (((1 : Int32) <<< (x1 &&& 31))).toInt ≤ 128 := i_shl 7 (by decide) ⟨by omega, by omega⟩
    try have a_11 : 0 ≤ (((rd M11 5 13) ||| ((1 : Int32) <<< (x1 &&& 31)))).toInt ∧ (((rd M11 5 13) ||| ((1 : Int32) <<< (x1 &&& 31)))).toInt < 256 := i_or 8 (by decide) ⟨by omega, by omega⟩ ⟨by omega, by omega⟩
    refine Sf.c (sX3_ordersFrom h_M11 ⟨by omega, by omega⟩) (fun r13 _ => ?_)
    exact Sf.ok ⟨h_M11, trivial⟩
  · have c_7 := i_ne c_7
    exact Sf.ok ⟨h_M7, trivial⟩
set_option maxHeartbeats 2000000 in
theorem sX6_lastSteps {s : Nat → Int × Int} {M : Mem} (h_M : OKb (fT s) M) : Sf (mX6_lastSteps 0 M) (pMI (fT s) (-2147483648) (2147483647)) := by
  unfold mX6_lastSteps
  refine Sf.m (sX3_prepare isP_5 h_M) (fun M3 _ h_M3 => ?_)
  have h_M3 : OKb (fT s) M3 := h_M3
  refine Sf.c (sX3_stepsAtTheEnd isP_5 h_M3) (fun r5 p_2 => ?_)
  obtain ⟨p_2a, p_2b⟩ := p_2
  exact Sf.ok ⟨h_M3, (i_rng _)⟩
set_option maxHeartbeats 2000000 in
theorem sX6_mostBends {s : Nat → Int × Int} {M : Mem} (h_M : OKb (fT s) M) : Sf (mX6_mostBends 0 M) (pMI (fT s) (-63) (63)) := by
  unfold mX6_mostBends
  refine Sf.m (sX3_prepare isP_5 h_M) (fun M3 _ h_M3 => ?_)
  have h_M3 : OKb (fT s) M3 := h_M3
  refine Sf.c (sX3_mostBendsFrom isP_5 h_M3) (fun r5 p_2 => ?_)
  obtain ⟨p_2a, p_2b⟩ := p_2
  have z_3 : (-63 : Int) ≤ (r5).toInt ∧ (r5).toInt ≤ 63 := ⟨by omega, by omega⟩
  exact Sf.ok ⟨h_M3, z_3⟩
set_option maxHeartbeats 2000000 in
theorem sX6_greatestBeam_b59 {s : Nat → Int × Int} {ih16 : Int32 → Int32 → Mem → Option (Mem × Int32)} {x1 : Int32} {x2 : Int32} {M : Mem} {d16 : Nat} (h_M : OKb (fT s) M) (hx1 : (-1 : Int) ≤ (x1).toInt ∧ (x1).toInt ≤ 20) (hx2 : (1 : Int) ≤ (x2).toInt ∧ (x2).toInt ≤ 16) (hih16 : ∀ (yx1 : Int32) (yx2 : Int32) (M : Mem), OKb (fT s) M → ((-1 : Int) ≤ (yx1).toInt ∧ (yx1).toInt ≤ 20) → ((0 : Int) ≤ (yx2).toInt ∧ (yx2).toInt ≤ 16) → (yx2).toInt < d16 → Sf (ih16 yx1 yx2 M) (pMI (fT s) (-1) (2000))) (hmu16 : (x2).toInt ≤ d16) : Sf (mX6_greatestBeam_b59 0 ih16 x1 x2 M) (pMI (fT s) (-1) (2000)) := by
  unfold mX6_greatestBeam_b59
  try have a_1 := i_shr1 (a := x2)
  refine Sf.b (fun x2_62 e_x2_62 => ?_)
  have d_x2_62 := congrArg Int32.toInt e_x2_62
  exact (hih16 _ _ _ h_M ⟨by omega, by omega⟩ ⟨by omega, by omega⟩ (by omega))
set_option maxHeartbeats 2000000 in
theorem sX6_greatestBeam_b16 {s : Nat → Int × Int} {ih16 : Int32 → Int32 → Mem → Option (Mem × Int32)} {x1 : Int32} {x2 : Int32} {M : Mem} {d16 : Nat} (h_M : OKb (fT s) M) (hx1 : (-1 : Int) ≤ (x1).toInt ∧ (x1).toInt ≤ 20) (hx2 : (0 : Int) ≤ (x2).toInt ∧ (x2).toInt ≤ 16) (hih16 : ∀ (yx1 : Int32) (yx2 : Int32) (M : Mem), OKb (fT s) M → ((-1 : Int) ≤ (yx1).toInt ∧ (yx1).toInt ≤ 20) → ((0 : Int) ≤ (yx2).toInt ∧ (yx2).toInt ≤ 16) → (yx2).toInt < d16 → Sf (ih16 yx1 yx2 M) (pMI (fT s) (-1) (2000))) (hmu16 : (x2).toInt ≤ d16) : Sf (mX6_greatestBeam_b16 0 ih16 x1 x2 M) (pMI (fT s) (-1) (2000)) := by
  unfold mX6_greatestBeam_b16
  have n_1 : ((0 : Int32)).toInt = 0 := rfl
  refine Sf.i (fun c_2 => ?_) (fun c_2 => ?_)
  · have c_2 := i_le.mp c_2
    have n_3 : (((-1) : Int32)).toInt = -1 := rfl
    refine Sf.i (fun c_4 => ?_) (fun c_4 => ?_)
    · have c_4 := i_eq.mp c_4
      have z_5 : (-1 : Int) ≤ (((-1) : Int32)).toInt ∧ (((-1) : Int32)).toInt ≤ 2000 := ⟨by omega, by omega⟩
      exact Sf.ok ⟨h_M, z_5⟩
    · have c_4 := i_ne c_4
      have n_6 : ((100 : Int32)).toInt = 100 := rfl
      try have a_7 : (((100 : Int32) * x1)).toInt = 100 * (x1).toInt := i_mulc (by omega) (by omega) (by omega)
      have z_8 : (-1 : Int) ≤ (((100 : Int32) * x1)).toInt ∧ (((100 : Int32) * x1)).toInt ≤ 2000 := ⟨by omega, by omega⟩
      exact Sf.ok ⟨h_M, z_8⟩
  · have c_2 := i_nle c_2
    try have a_9 : ((x1 + x2)).toInt = (x1).toInt + (x2).toInt := i_add (by omega) (by omega)
    refine Sf.b (fun x3_23 e_x3_23 => ?_)
    have d_x3_23 := congrArg Int32.toInt e_x3_23
    have n_10 : ((1 : Int32)).toInt = 1 := rfl
    refine Sf.k (ok_in (by omega) (by omega)) ?_
    refine Sf.b (fun M9 e_M9 => ?_)
    have h_M9 : OKb (fT s) M9 := by rw [e_M9]; exact h_M.put rfl (i_rng _)
    have n_11 : ((20 : Int32)).toInt = 20 := rfl
    refine Sf.i (fun c_12 => ?_) (fun c_12 => ?_)
    · have c_12 := i_lt.mp c_12
      exact (sX6_greatestBeam_b59 h_M9 ⟨by omega, by omega⟩ ⟨by omega, by omega⟩ hih16 (by omega))
    · have c_12 := i_nlt c_12
      refine Sf.m (sX3_reachesAll isP_13 h_M9) (fun M14 r13 p_13 => ?_)
      have h_M14 : OKb (fT s) M14 := p_13.1
      have p_13 : (0 : Int) ≤ (r13).toInt ∧ (r13).toInt ≤ (1 : Int) := p_13.2
      refine Sf.i (fun c_14 => ?_) (fun c_14 => ?_)
      · have c_14 := i_eq.mp c_14
        exact (sX6_greatestBeam_b59 h_M14 ⟨by omega, by omega⟩ ⟨by omega, by omega⟩ hih16 (by omega))
      · have c_14 := i_ne c_14
        exact (sX6_greatestBeam_b59 h_M14 ⟨by omega, by omega⟩ ⟨by omega, by omega⟩ hih16 (by omega))
theorem sX6_greatestBeam_l16_n {s : Nat → Int × Int}    : ∀ (n : Nat) (x1 : Int32) (x2 : Int32) (M : Mem) (h_M : OKb (fT s) M) (hx1 : (-1 : Int) ≤ (x1).toInt ∧ (x1).toInt ≤ 20) (hx2 : (0 : Int) ≤ (x2).toInt ∧ (x2).toInt ≤ 16)    (hmu : (x2).toInt < n), Sf (mX6_greatestBeam_l16 0 n x1 x2 M) (pMI (fT s) (-1) (2000)) := by
  intro n
  induction n with
  | zero => intro x1 x2 M h_M hx1 hx2 hmu; exfalso; omega
  | succ n IH => intro x1 x2 M h_M hx1 hx2 hmu; exact sX6_greatestBeam_b16  h_M hx1 hx2    IH (by omega)
theorem sX6_greatestBeam_l16 {s : Nat → Int × Int}  {x1 : Int32} {x2 : Int32} {M : Mem}  (h_M : OKb (fT s) M) (hx1 : (-1 : Int) ≤ (x1).toInt ∧ (x1).toInt ≤ 20) (hx2 : (0 : Int) ≤ (x2).toInt ∧ (x2).toInt ≤ 16)    (hmu : (x2).toInt < 5000) : Sf (mX6_greatestBeam_l16 0 5000 x1 x2 M) (pMI (fT s) (-1) (2000)) :=
  sX6_greatestBeam_l16_n   5000 _ _ M h_M hx1 hx2    hmu
set_option maxHeartbeats 2000000 in
theorem sX6_greatestBeam {s : Nat → Int × Int} {M : Mem} (h_M : OKb (fT s) M) : Sf (mX6_greatestBeam 0 M) (pMI (fT s) (-1) (2000)) := by
  unfold mX6_greatestBeam
  refine Sf.m (sX1_copyFrom isP_13 isP_5 h_M) (fun M3 _ p_1 => ?_)
  have h_M3 : OKb (fT s) M3 := p_1.1
  have gq_M3 : ∀ j, rd M3 21 j = rd M 21 j := p_1.2
  have n_2 : (((-1) : Int32)).toInt = -1 := rfl
  have n_3 : ((16 : Int32)).toInt = 16 := rfl
  exact (sX6_greatestBeam_l16 h_M3 ⟨by omega, by omega⟩ ⟨by omega, by omega⟩ (by omega))
set_option maxHeartbeats 2000000 in
theorem sX6_requireFlat {s : Nat → Int × Int} {M : Mem} (h_M : OKb (fT s) M) : Sf (mX6_requireFlat 0 M) (pX (fT s) rT [2]) := by
  unfold mX6_requireFlat
  have b_1 : (0 : Int) ≤ (rd M 5 14).toInt ∧ (rd M 5 14).toInt ≤ 8 := h_M.at rfl
  have n_2 : ((0 : Int32)).toInt = 0 := rfl
  refine Sf.i (fun c_3 => ?_) (fun c_3 => ?_)
  · have c_3 := i_le.mp c_3
    exact Sf.ok ⟨h_M, trivial⟩
  · have c_3 := i_nle c_3
    exact Sf.ok ⟨h_M, show (2 : Nat) ∈ [2] from by decide⟩
set_option maxHeartbeats 2000000 in
theorem sX6_costIfTurned {s : Nat → Int × Int} {x1 : Int32} {M : Mem} (h_M : OKb (fT s) M) : Sf (mX6_costIfTurned 0 x1 M) (pX (fT s) (rI (-2147483648) (2147483647)) [1, 2]) := by
  unfold mX6_costIfTurned
  refine Sf.x (sX6_requireBend h_M) (fun M3 _ p_1 => ?_) (fun M e h => ⟨h.1, mem_sub (by decide) h.2⟩)
  have h_M3 : OKb (fT s) M3 := p_1.1
  have p_1h : ((0 : Int) ≤ (x1).toInt ∧ (x1).toInt ≤ 7) := p_1.2
  refine Sf.x (sX6_requireFlat h_M3) (fun M7 _ p_2 => ?_) (fun M e h => ⟨h.1, mem_sub (by decide) h.2⟩)
  have h_M7 : OKb (fT s) M7 := p_2.1
  refine Sf.m (sX1_copyFrom isP_13 isP_5 h_M7) (fun M11 _ p_3 => ?_)
  have h_M11 : OKb (fT s) M11 := p_3.1
  have gq_M11 : ∀ j, rd M11 21 j = rd M7 21 j := p_3.2
  have b_4 : (0 : Int) ≤ (rd M11 13 2).toInt ∧ (rd M11 13 2).toInt ≤ 255 := h_M11.at rfl
  try have a_5 : 0 < (((1 : Int32) <<< (x1 &&& 31))).toInt ∧ (((1 : Int32) <<< (x1 &&& 31))).toInt ≤ 128 := i_shl 7 (by decide) ⟨by omega, by omega⟩
  try have a_6 : 0 ≤ (((rd M11 13 2) ^^^ ((1 : Int32) <<< (x1 &&& 31)))).toInt ∧ (((rd M11 13 2) ^^^ ((1 : Int32) <<< (x1 &&& 31)))).toInt < 256 := i_xor 8 (by decide) ⟨by omega, by omega⟩ ⟨by omega, by omega⟩
  have z_7 : (0 : Int) ≤ (((rd M11 13 2) ^^^ ((1 : Int32) <<< (x1 &&& 31)))).toInt ∧ (((rd M11 13 2) ^^^ ((1 : Int32) <<< (x1 &&& 31)))).toInt ≤ 255 := ⟨by omega, by omega⟩
  refine Sf.b (fun M12 e_M12 => ?_)
  have h_M12 : OKb (fT s) M12 := by rw [e_M12]; exact h_M11.put rfl z_7
  refine Sf.m (sX3_prepare isP_13 h_M12) (fun M16 _ h_M16 => ?_)
  have h_M16 : OKb (fT s) M16 := h_M16
  exact Sf.ok ⟨h_M16, (i_rng _)⟩
set_option maxHeartbeats 2000000 in
theorem sX6_makeStep {s : Nat → Int × Int} {x1 : Int32} {M : Mem} (h_M : OKb (fT s) M) (hx1 : (0 : Int) ≤ (x1).toInt ∧ (x1).toInt ≤ 15) : Sf (mX6_makeStep 0 x1 M) (pMI (fT s) (0) (297)) := by
  unfold mX6_makeStep
  refine Sf.m (sX6_costNow h_M ⟨by omega, by omega⟩) (fun M3 r2 p_1 => ?_)
  have h_M3 : OKb (fT s) M3 := p_1.1
  have p_1 : (0 : Int) ≤ (r2).toInt ∧ (r2).toInt ≤ (297 : Int) := p_1.2
  refine Sf.m (sX0_remember isP_5 h_M3) (fun M6 _ h_M6 => ?_)
  have h_M6 : OKb (fT s) M6 := h_M6
  refine Sf.m (sX6_gaugeNow h_M6 ⟨by omega, by omega⟩) (fun M9 r8 p_3 => ?_)
  have h_M9 : OKb (fT s) M9 := p_3.1
  have p_3 : (0 : Int) ≤ (r8).toInt ∧ (r8).toInt ≤ (2147483647 : Int) := p_3.2
  have g_4 := i_rng r8
  refine Sf.m (sX1_addStep isP_5 h_M9 ⟨by omega, by omega⟩ ⟨by omega, by omega⟩ ⟨by omega, by omega⟩) (fun M12 _ h_M12 => ?_)
  have h_M12 : OKb (fT s) M12 := h_M12
  have z_6 : (0 : Int) ≤ (r2).toInt ∧ (r2).toInt ≤ 297 := ⟨by omega, by omega⟩
  exact Sf.ok ⟨h_M12, z_6⟩
set_option maxHeartbeats 2000000 in
theorem sX6_fold {s : Nat → Int × Int} {x1 : Int32} {x2 : Int32} {M : Mem} (h_M : OKb (fT s) M) : Sf (mX6_fold 0 x1 x2 M) (pX (fT s) (rI (0) (297)) [0, 1, 2]) := by
  unfold mX6_fold
  refine Sf.x (sX6_requireStep h_M) (fun M3 _ p_1 => ?_) (fun M e h => ⟨h.1, mem_sub (by decide) h.2⟩)
  have h_M3 : OKb (fT s) M3 := p_1.1
  have p_1h : ((0 : Int) ≤ (x1).toInt ∧ (x1).toInt ≤ 7) ∧ ((0 : Int) ≤ (x2).toInt ∧ (x2).toInt ≤ 1) := p_1.2
  have n_2 : ((2 : Int32)).toInt = 2 := rfl
  try have a_3 : (((2 : Int32) * x1)).toInt = 2 * (x1).toInt := i_mulc (by omega) (by omega) (by omega)
  try have a_4 : ((((2 : Int32) * x1) + x2)).toInt = (((2 : Int32) * x1)).toInt + (x2).toInt := i_add (by omega) (by omega)
  refine Sf.m (sX6_reasonNow h_M3 ⟨by omega, by omega⟩) (fun M7 r6 p_5 => ?_)
  have h_M7 : OKb (fT s) M7 := p_5.1
  have p_5 : (0 : Int) ≤ (r6).toInt ∧ (r6).toInt ≤ (6 : Int) := p_5.2
  have n_6 : ((0 : Int32)).toInt = 0 := rfl
  refine Sf.i (fun c_7 => ?_) (fun c_7 => ?_)
  · have c_7 := i_eq.mp c_7
    refine Sf.m (sX6_makeStep h_M7 ⟨by omega, by omega⟩) (fun M11 r10 p_8 => ?_)
    have h_M11 : OKb (fT s) M11 := p_8.1
    have p_8 : (0 : Int) ≤ (r10).toInt ∧ (r10).toInt ≤ (297 : Int) := p_8.2
    have z_9 : (0 : Int) ≤ (r10).toInt ∧ (r10).toInt ≤ 297 := ⟨by omega, by omega⟩
    exact Sf.ok ⟨h_M11, z_9⟩
  · have c_7 := i_ne c_7
    exact Sf.ok ⟨h_M7, show (2 : Nat) ∈ [0, 1, 2] from by decide⟩
set_option maxHeartbeats 2000000 in
theorem sX6_foldNext {s : Nat → Int × Int} {M : Mem} (h_M : OKb (fT s) M) : Sf (mX6_foldNext 0 M) (pX (fT s) (rI (0) (15)) [2]) := by
  unfold mX6_foldNext
  refine Sf.m (sX3_prepare isP_5 h_M) (fun M3 _ h_M3 => ?_)
  have h_M3 : OKb (fT s) M3 := h_M3
  have n_2 : ((1 : Int32)).toInt = 1 := rfl
  have b_3 : (-1 : Int) ≤ (rd M3 110 3).toInt ∧ (rd M3 110 3).toInt ≤ 8 := h_M3.at rfl
  refine Sf.i (fun c_4 => ?_) (fun c_4 => ?_)
  · have c_4 := i_le.mp c_4
    have n_5 : ((0 : Int32)).toInt = 0 := rfl
    refine Sf.k (ok_in (by omega) (by omega)) ?_
    have b_6 : (0 : Int) ≤ (rd M3 (110 + 1) (((0 : Int32)).toNatClampNeg)).toInt ∧ (rd M3 (110 + 1) (((0 : Int32)).toNatClampNeg)).toInt ≤ 15 := h_M3.at rfl
    refine Sf.b (fun x1_42 e_x1_42 => ?_)
    have d_x1_42 := congrArg Int32.toInt e_x1_42
    refine Sf.m (sX6_makeStep h_M3 ⟨by omega, by omega⟩) (fun M9 r8 p_7 => ?_)
    have h_M9 : OKb (fT s) M9 := p_7.1
    have p_7 : (0 : Int) ≤ (r8).toInt ∧ (r8).toInt ≤ (297 : Int) := p_7.2
    have z_8 : (0 : Int) ≤ (x1_42).toInt ∧ (x1_42).toInt ≤ 15 := ⟨by omega, by omega⟩
    exact Sf.ok ⟨h_M9, z_8⟩
  · have c_4 := i_nle c_4
    exact Sf.ok ⟨h_M3, show (2 : Nat) ∈ [2] from by decide⟩
set_option maxHeartbeats 2000000 in
theorem sX6_unfold {s : Nat → Int × Int} {M : Mem} (h_M : OKb (fT s) M) : Sf (mX6_unfold 0 M) (pMI (fT s) (0) (8)) := by
  unfold mX6_unfold
  refine Sf.m (sX0_remember isP_5 h_M) (fun M3 _ h_M3 => ?_)
  have h_M3 : OKb (fT s) M3 := h_M3
  have b_2 : (0 : Int) ≤ (rd M3 5 14).toInt ∧ (rd M3 5 14).toInt ≤ 8 := h_M3.at rfl
  refine Sf.b (fun x1_18 e_x1_18 => ?_)
  have d_x1_18 := congrArg Int32.toInt e_x1_18
  refine Sf.m (sX1_dropSteps isP_5 h_M3) (fun M7 _ h_M7 => ?_)
  have h_M7 : OKb (fT s) M7 := h_M7
  have z_4 : (0 : Int) ≤ (x1_18).toInt ∧ (x1_18).toInt ≤ 8 := ⟨by omega, by omega⟩
  exact Sf.ok ⟨h_M7, z_4⟩
set_option maxHeartbeats 2000000 in
theorem sX6_setLeg {s : Nat → Int × Int} {x1 : Int32} {x2 : Int32} {M : Mem} (h_M : OKb (fT s) M) : Sf (mX6_setLeg 0 x1 x2 M) (pX (fT s) (rI (0) (9999)) [0, 1, 2]) := by
  unfold mX6_setLeg
  refine Sf.x (sX6_requireLeg h_M) (fun M3 _ p_1 => ?_) (fun M e h => ⟨h.1, mem_sub (by decide) h.2⟩)
  have h_M3 : OKb (fT s) M3 := p_1.1
  have p_1h : ((0 : Int) ≤ (x1).toInt ∧ (x1).toInt ≤ 8) := p_1.2
  refine Sf.c sX5_allows (fun r6 p_2 => ?_)
  have p_2 : ((0 : Int) ≤ (r6).toInt ∧ (r6).toInt ≤ 1) ∧ ((r6).toInt = 0 ∨ ((1 : Int) ≤ (x2).toInt ∧ (x2).toInt ≤ 9999)) := p_2
  have n_3 : ((0 : Int32)).toInt = 0 := rfl
  have n_4 : ((0 : Int32)).toInt = 0 := rfl
  refine Sf.i (fun c_5 => ?_) (fun c_5 => ?_)
  · have c_5 := i_eq.mp c_5
    exact Sf.ok ⟨h_M3, show (0 : Nat) ∈ [0, 1, 2] from by decide⟩
  · have c_5 := i_ne c_5
    refine Sf.x (sX6_requireFlat h_M3) (fun M11 _ p_6 => ?_) (fun M e h => ⟨h.1, mem_sub (by decide) h.2⟩)
    have h_M11 : OKb (fT s) M11 := p_6.1
    refine Sf.m (sX0_remember isP_5 h_M11) (fun M15 _ h_M15 => ?_)
    have h_M15 : OKb (fT s) M15 := h_M15
    refine Sf.k (ok_in (by omega) (by omega)) ?_
    have b_8 : (0 : Int) ≤ (rd M15 (5 + 1) ((x1).toNatClampNeg)).toInt ∧ (rd M15 (5 + 1) ((x1).toNatClampNeg)).toInt ≤ 9999 := h_M15.at rfl
    refine Sf.b (fun x3_51 e_x3_51 => ?_)
    have d_x3_51 := congrArg Int32.toInt e_x3_51
    refine Sf.k (ok_in (by omega) (by omega)) ?_
    have z_9 : (0 : Int) ≤ (x2).toInt ∧ (x2).toInt ≤ 9999 := ⟨by omega, by omega⟩
    refine Sf.b (fun M20 e_M20 => ?_)
    have h_M20 : OKb (fT s) M20 := by rw [e_M20]; exact h_M15.put rfl z_9
    have z_10 : (0 : Int) ≤ (x3_51).toInt ∧ (x3_51).toInt ≤ 9999 := ⟨by omega, by omega⟩
    exact Sf.ok ⟨h_M20, z_10⟩
set_option maxHeartbeats 2000000 in
theorem sX6_setDirection {s : Nat → Int × Int} {x1 : Int32} {x2 : Int32} {M : Mem} (h_M : OKb (fT s) M) : Sf (mX6_setDirection 0 x1 x2 M) (pX (fT s) (rI (0) (1)) [1, 2]) := by
  unfold mX6_setDirection
  refine Sf.x (sX6_requireBend h_M) (fun M3 _ p_1 => ?_) (fun M e h => ⟨h.1, mem_sub (by decide) h.2⟩)
  have h_M3 : OKb (fT s) M3 := p_1.1
  have p_1h : ((0 : Int) ≤ (x1).toInt ∧ (x1).toInt ≤ 7) := p_1.2
  refine Sf.x (sX6_requireFlat h_M3) (fun M7 _ p_2 => ?_) (fun M e h => ⟨h.1, mem_sub (by decide) h.2⟩)
  have h_M7 : OKb (fT s) M7 := p_2.1
  refine Sf.m (sX0_remember isP_5 h_M7) (fun M11 _ h_M11 => ?_)
  have h_M11 : OKb (fT s) M11 := h_M11
  refine Sf.c (sX1_goesUp isP_5 h_M11 ⟨by omega, by omega⟩) (fun r13 p_4 => ?_)
  obtain ⟨p_4a, p_4b⟩ := p_4
  refine Sf.i (fun c_5 => ?_) (fun c_5 => ?_)
  · have c_5 := i_eq.mp c_5
    refine Sf.k (isB_in ⟨by omega, by omega⟩) ?_
    have z_6 : (0 : Int) ≤ (r13).toInt ∧ (r13).toInt ≤ 1 := ⟨by omega, by omega⟩
    exact Sf.ok ⟨h_M11, z_6⟩
  · have c_5 := i_ne c_5
    have b_7 : (0 : Int) ≤ (rd M11 5 2).toInt ∧ (rd M11 5 2).toInt ≤ 255 := h_M11.at rfl
    try have a_8 : 0 < (((1 : Int32) <<< (x1 &&& 31))).toInt ∧ (((1 : Int32) <<< (x1 &&& 31))).toInt ≤ 128 := i_shl 7 (by decide) ⟨by omega, by omega⟩
    try have a_9 : 0 ≤ (((rd M11 5 2) ^^^ ((1 : Int32) <<< (x1 &&& 31)))).toInt ∧ (((rd M11 5 2) ^^^ ((1 : Int32) <<< (x1 &&& 31)))).toInt < 256 := i_xor 8 (by decide) ⟨by omega, by omega⟩ ⟨by omega, by omega⟩
    have z_10 : (0 : Int) ≤ (((rd M11 5 2) ^^^ ((1 : Int32) <<< (x1 &&& 31)))).toInt ∧ (((rd M11 5 2) ^^^ ((1 : Int32) <<< (x1 &&& 31)))).toInt ≤ 255 := ⟨by omega, by omega⟩
    refine Sf.b (fun M17 e_M17 => ?_)
    have h_M17 : OKb (fT s) M17 := by rw [e_M17]; exact h_M11.put rfl z_10
    refine Sf.k (isB_in ⟨by omega, by omega⟩) ?_
    have z_11 : (0 : Int) ≤ (r13).toInt ∧ (r13).toInt ≤ 1 := ⟨by omega, by omega⟩
    exact Sf.ok ⟨h_M17, z_11⟩
set_option maxHeartbeats 2000000 in
theorem sX6_setTool_b32 {s : Nat → Int × Int} {M : Mem} (h_M : OKb (fT s) M) : Sf (mX6_setTool_b32 0 M) (pX (fT s) (rI (-2147483648) (2147483647)) [0]) := by
  unfold mX6_setTool_b32
  exact Sf.ok ⟨h_M, show (0 : Nat) ∈ [0] from by decide⟩
set_option maxHeartbeats 2000000 in
theorem sX6_setTool {s : Nat → Int × Int} {x1 : Int32} {x2 : Int32} {x3 : Int32} {M : Mem} (h_M : OKb (fT s) M) : Sf (mX6_setTool 0 x1 x2 x3 M) (pX (fT s) (rI (-2147483648) (2147483647)) [0]) := by
  unfold mX6_setTool
  refine Sf.c sX5_ofTool (fun r2 p_1 => ?_)
  have p_1 : r2 = none ∨ ∃ w, r2 = some w ∧ 5 ≤ w ∧ w ≤ 9 ∧ (w : Int) = 5 + (x1).toInt := p_1
  refine Sf.o (fun c_2 => ?_) (fun w4 c_2 => ?_)
  · skip
    exact (sX6_setTool_b32 h_M)
  · skip
    have p_1 : 5 ≤ w4 ∧ w4 ≤ 9 ∧ ((w4 : Nat) : Int) = 5 + _ := of_rel p_1 c_2
    refine Sf.k (decide_eq_true (by omega)) ?_
    refine Sf.c sX5_allows (fun r7 p_3 => ?_)
    have p_3 : (0 : Int) ≤ (r7).toInt ∧ (r7).toInt ≤ 1 := p_3.1
    have n_4 : ((0 : Int32)).toInt = 0 := rfl
    have n_5 : ((0 : Int32)).toInt = 0 := rfl
    refine Sf.i (fun c_6 => ?_) (fun c_6 => ?_)
    · have c_6 := i_eq.mp c_6
      exact (sX6_setTool_b32 h_M)
    · have c_6 := i_ne c_6
      refine Sf.c sX5_allowsBehind (fun r11 p_7 => ?_)
      have p_7 : (0 : Int) ≤ (r11).toInt ∧ (r11).toInt ≤ 1 := p_7
      have n_8 : ((1 : Int32)).toInt = 1 := rfl
      refine Sf.i (fun c_9 => ?_) (fun c_9 => ?_)
      · have c_9 := i_eq.mp c_9
        exact (sX6_setTool_b32 h_M)
      · have c_9 := i_ne c_9
        refine Sf.m (sX0_remember isP_5 h_M) (fun M16 _ h_M16 => ?_)
        have h_M16 : OKb (fT s) M16 := h_M16
        have n_11 : ((2 : Int32)).toInt = 2 := rfl
        try have a_12 : (((2 : Int32) * x1)).toInt = 2 * (x1).toInt := i_mulc (by omega) (by omega) (by omega)
        refine Sf.k (ok_in (by omega) (by omega)) ?_
        refine Sf.b (fun x5_65 e_x5_65 => ?_)
        have d_x5_65 := congrArg Int32.toInt e_x5_65
        refine Sf.m (sX1_putTool isP_5 h_M16 ⟨by omega, by omega⟩) (fun M21 _ h_M21 => ?_)
        have h_M21 : OKb (fT s) M21 := h_M21
        exact Sf.ok ⟨h_M21, (i_rng _)⟩
set_option maxHeartbeats 2000000 in
theorem sX6_setSheet_b33 {s : Nat → Int × Int} {M : Mem} (h_M : OKb (fT s) M) : Sf (mX6_setSheet_b33 0 M) (pX (fT s) (rI (-2147483648) (2147483647)) [0]) := by
  unfold mX6_setSheet_b33
  exact Sf.ok ⟨h_M, show (0 : Nat) ∈ [0] from by decide⟩
set_option maxHeartbeats 2000000 in
theorem sX6_setSheet {s : Nat → Int × Int} {x1 : Int32} {x2 : Int32} {x3 : Int32} {M : Mem} (h_M : OKb (fT s) M) : Sf (mX6_setSheet 0 x1 x2 x3 M) (pX (fT s) (rI (-2147483648) (2147483647)) [0]) := by
  unfold mX6_setSheet
  refine Sf.c sX5_allows (fun r2 p_1 => ?_)
  have p_1 : ((0 : Int) ≤ (r2).toInt ∧ (r2).toInt ≤ 1) ∧ ((r2).toInt = 0 ∨ ((1 : Int) ≤ (x1).toInt ∧ (x1).toInt ≤ 60)) := p_1
  have n_2 : ((0 : Int32)).toInt = 0 := rfl
  have n_3 : ((0 : Int32)).toInt = 0 := rfl
  refine Sf.i (fun c_4 => ?_) (fun c_4 => ?_)
  · have c_4 := i_eq.mp c_4
    exact (sX6_setSheet_b33 h_M)
  · have c_4 := i_ne c_4
    refine Sf.c sX5_allows (fun r6 p_5 => ?_)
    have p_5 : ((0 : Int) ≤ (r6).toInt ∧ (r6).toInt ≤ 1) ∧ ((r6).toInt = 0 ∨ ((0 : Int) ≤ (x2).toInt ∧ (x2).toInt ≤ 200)) := p_5
    have n_6 : ((1 : Int32)).toInt = 1 := rfl
    refine Sf.i (fun c_7 => ?_) (fun c_7 => ?_)
    · have c_7 := i_eq.mp c_7
      exact (sX6_setSheet_b33 h_M)
    · have c_7 := i_ne c_7
      refine Sf.c sX5_allows (fun r10 p_8 => ?_)
      have p_8 : ((0 : Int) ≤ (r10).toInt ∧ (r10).toInt ≤ 1) ∧ ((r10).toInt = 0 ∨ ((0 : Int) ≤ (x3).toInt ∧ (x3).toInt ≤ 100)) := p_8
      have n_9 : ((2 : Int32)).toInt = 2 := rfl
      refine Sf.i (fun c_10 => ?_) (fun c_10 => ?_)
      · have c_10 := i_eq.mp c_10
        exact (sX6_setSheet_b33 h_M)
      · have c_10 := i_ne c_10
        refine Sf.m (sX0_remember isP_5 h_M) (fun M15 _ h_M15 => ?_)
        have h_M15 : OKb (fT s) M15 := h_M15
        refine Sf.b (fun x4_62 e_x4_62 => ?_)
        have d_x4_62 := congrArg Int32.toInt e_x4_62
        refine Sf.m (sX1_putSheet isP_5 h_M15) (fun M19 _ p_12 => ?_)
        have h_M19 : OKb (fT s) M19 := p_12.1
        have gq_M19 : ∀ j, rd M19 21 j = rd M15 21 j := p_12.2
        exact Sf.ok ⟨h_M19, (i_rng _)⟩
set_option maxHeartbeats 2000000 in
theorem sX6_setCost_b33 {s : Nat → Int × Int} {M : Mem} (h_M : OKb (fT s) M) : Sf (mX6_setCost_b33 0 M) (pX (fT s) (rI (0) (99)) [0]) := by
  unfold mX6_setCost_b33
  exact Sf.ok ⟨h_M, show (0 : Nat) ∈ [0] from by decide⟩
set_option maxHeartbeats 2000000 in
theorem sX6_setCost {s : Nat → Int × Int} {x1 : Int32} {x2 : Int32} {x3 : Int32} {M : Mem} (h_M : OKb (fT s) M) : Sf (mX6_setCost 0 x1 x2 x3 M) (pX (fT s) (rI (0) (99)) [0]) := by
  unfold mX6_setCost
  refine Sf.c sX5_allows (fun r2 p_1 => ?_)
  have p_1 : ((0 : Int) ≤ (r2).toInt ∧ (r2).toInt ≤ 1) ∧ ((r2).toInt = 0 ∨ ((0 : Int) ≤ (x1).toInt ∧ (x1).toInt ≤ 99)) := p_1
  have n_2 : ((0 : Int32)).toInt = 0 := rfl
  have n_3 : ((0 : Int32)).toInt = 0 := rfl
  refine Sf.i (fun c_4 => ?_) (fun c_4 => ?_)
  · have c_4 := i_eq.mp c_4
    exact (sX6_setCost_b33 h_M)
  · have c_4 := i_ne c_4
    refine Sf.c sX5_allows (fun r6 p_5 => ?_)
    have p_5 : ((0 : Int) ≤ (r6).toInt ∧ (r6).toInt ≤ 1) ∧ ((r6).toInt = 0 ∨ ((0 : Int) ≤ (x2).toInt ∧ (x2).toInt ≤ 99)) := p_5
    have n_6 : ((1 : Int32)).toInt = 1 := rfl
    refine Sf.i (fun c_7 => ?_) (fun c_7 => ?_)
    · have c_7 := i_eq.mp c_7
      exact (sX6_setCost_b33 h_M)
    · have c_7 := i_ne c_7
      refine Sf.c sX5_allows (fun r10 p_8 => ?_)
      have p_8 : ((0 : Int) ≤ (r10).toInt ∧ (r10).toInt ≤ 1) ∧ ((r10).toInt = 0 ∨ ((0 : Int) ≤ (x3).toInt ∧ (x3).toInt ≤ 99)) := p_8
      have n_9 : ((2 : Int32)).toInt = 2 := rfl
      refine Sf.i (fun c_10 => ?_) (fun c_10 => ?_)
      · have c_10 := i_eq.mp c_10
        exact (sX6_setCost_b33 h_M)
      · have c_10 := i_ne c_10
        refine Sf.m (sX0_remember isP_5 h_M) (fun M15 _ h_M15 => ?_)
        have h_M15 : OKb (fT s) M15 := h_M15
        have b_12 : (0 : Int) ≤ (rd M15 5 7).toInt ∧ (rd M15 5 7).toInt ≤ 99 := h_M15.at rfl
        refine Sf.b (fun x4_62 e_x4_62 => ?_)
        have d_x4_62 := congrArg Int32.toInt e_x4_62
        refine Sf.m (sX1_putCosts isP_5 h_M15 ⟨by omega, by omega⟩ ⟨by omega, by omega⟩ ⟨by omega, by omega⟩) (fun M19 _ p_13 => ?_)
        have h_M19 : OKb (fT s) M19 := p_13.1
        have gq_M19 : ∀ j, rd M19 21 j = rd M15 21 j := p_13.2
        have z_14 : (0 : Int) ≤ (x4_62).toInt ∧ (x4_62).toInt ≤ 99 := ⟨by omega, by omega⟩
        exact Sf.ok ⟨h_M19, z_14⟩
set_option maxHeartbeats 2000000 in
theorem sX6_undo {s : Nat → Int × Int} {M : Mem} (h_M : OKb (fT s) M) : Sf (mX6_undo 0 M) (pMI (fT s) (-1) (10)) := by
  unfold mX6_undo
  refine Sf.m (sX0_takeBack isP_5 h_M) (fun M3 r2 p_1 => ?_)
  have h_M3 : OKb (fT s) M3 := p_1.1
  have p_1 : (0 : Int) ≤ (r2).toInt ∧ (r2).toInt ≤ (1 : Int) := p_1.2
  have n_2 : ((0 : Int32)).toInt = 0 := rfl
  refine Sf.i (fun c_3 => ?_) (fun c_3 => ?_)
  · have c_3 := i_eq.mp c_3
    have n_4 : (((-1) : Int32)).toInt = -1 := rfl
    have z_5 : (-1 : Int) ≤ (((-1) : Int32)).toInt ∧ (((-1) : Int32)).toInt ≤ 10 := ⟨by omega, by omega⟩
    exact Sf.ok ⟨h_M3, z_5⟩
  · have c_3 := i_ne c_3
    have b_6 : (0 : Int) ≤ (rd M3 21 2).toInt ∧ (rd M3 21 2).toInt ≤ 10 := h_M3.at rfl
    have z_7 : (-1 : Int) ≤ ((rd M3 21 2)).toInt ∧ ((rd M3 21 2)).toInt ≤ 10 := ⟨by omega, by omega⟩
    exact Sf.ok ⟨h_M3, z_7⟩
set_option maxHeartbeats 2000000 in
theorem sL_leg {s : Nat → Int × Int} {k1 : Nat} {x1 : Int32} {M : Mem} (h_M : OKb (fT s) M) : Sf (mL_leg 0 k1 x1 M) (pX (fT s) (rI (0) (1)) []) := by
  unfold mL_leg
  refine Sf.t (sX6_leg h_M) (fun M3 r2 p_1 => ?_) (fun M3 e4 p_1 => ?_)
  · skip
    have h_M3 : OKb (fT s) M3 := p_1.1
    have p_1a : (0 : Int) ≤ (r2).toInt ∧ (r2).toInt ≤ 9999 := p_1.2
    have n_2 : ((0 : Int32)).toInt = 0 := rfl
    refine Sf.k (ok_in (by omega) (by omega)) ?_
    refine Sf.b (fun M7 e_M7 => ?_)
    have h_M7 : OKb (fT s) M7 := by rw [e_M7]; exact h_M3.pl
    have z_3 : (0 : Int) ≤ ((0 : Int32)).toInt ∧ ((0 : Int32)).toInt ≤ 1 := ⟨by omega, by omega⟩
    exact Sf.ok ⟨h_M7, z_3⟩
  · have h_M3 : OKb (fT s) M3 := p_1.1
    have p_1e : e4 ∈ [1] := p_1.2
    simp only [List.mem_cons, List.not_mem_nil, or_false] at p_1e
    refine Sf.i (fun c_4 => ?_) (fun c_4 => ?_)
    · skip
      have n_5 : ((1 : Int32)).toInt = 1 := rfl
      have z_6 : (0 : Int) ≤ ((1 : Int32)).toInt ∧ ((1 : Int32)).toInt ≤ 1 := ⟨by omega, by omega⟩
      exact Sf.ok ⟨h_M3, z_6⟩
    · skip
      exfalso; omega
set_option maxHeartbeats 2000000 in
theorem sL_isUp_b15 {s : Nat → Int × Int} {k1 : Nat} {y1 : Int32} {y2 : Int64} {M : Mem} (h_M : OKb (fT s) M) (hy1 : (0 : Int) ≤ (y1).toInt ∧ (y1).toInt ≤ 0) : Sf (mL_isUp_b15 0 k1 y1 y2 M) (pX (fT s) (rI (0) (1)) []) := by
  unfold mL_isUp_b15
  refine Sf.k (ok_in (by omega) (by omega)) ?_
  refine Sf.b (fun M8 e_M8 => ?_)
  have h_M8 : OKb (fT s) M8 := by rw [e_M8]; exact h_M.pl
  have n_1 : ((0 : Int32)).toInt = 0 := rfl
  have z_2 : (0 : Int) ≤ ((0 : Int32)).toInt ∧ ((0 : Int32)).toInt ≤ 1 := ⟨by omega, by omega⟩
  exact Sf.ok ⟨h_M8, z_2⟩
set_option maxHeartbeats 2000000 in
theorem sL_isUp {s : Nat → Int × Int} {k1 : Nat} {x1 : Int32} {M : Mem} (h_M : OKb (fT s) M) : Sf (mL_isUp 0 k1 x1 M) (pX (fT s) (rI (0) (1)) []) := by
  unfold mL_isUp
  refine Sf.t (sX6_isUp h_M) (fun M3 r2 p_1 => ?_) (fun M3 e4 p_1 => ?_)
  · skip
    have h_M3 : OKb (fT s) M3 := p_1.1
    have p_1a : (0 : Int) ≤ (r2).toInt ∧ (r2).toInt ≤ 1 := p_1.2
    have n_2 : ((0 : Int32)).toInt = 0 := rfl
    refine Sf.i (fun c_3 => ?_) (fun c_3 => ?_)
    · have c_3 := i_eq.mp c_3
      have n_4 : ((0 : Int32)).toInt = 0 := rfl
      exact (sL_isUp_b15 h_M3 ⟨by omega, by omega⟩)
    · have c_3 := i_ne c_3
      have n_5 : ((0 : Int32)).toInt = 0 := rfl
      exact (sL_isUp_b15 h_M3 ⟨by omega, by omega⟩)
  · have h_M3 : OKb (fT s) M3 := p_1.1
    have p_1e : e4 ∈ [1] := p_1.2
    simp only [List.mem_cons, List.not_mem_nil, or_false] at p_1e
    refine Sf.i (fun c_6 => ?_) (fun c_6 => ?_)
    · skip
      have n_7 : ((1 : Int32)).toInt = 1 := rfl
      have z_8 : (0 : Int) ≤ ((1 : Int32)).toInt ∧ ((1 : Int32)).toInt ≤ 1 := ⟨by omega, by omega⟩
      exact Sf.ok ⟨h_M3, z_8⟩
    · skip
      exfalso; omega
set_option maxHeartbeats 2000000 in
theorem sL_tool {s : Nat → Int × Int} {k1 : Nat} {x1 : Int32} {x2 : Int32} {M : Mem} (h_M : OKb (fT s) M) : Sf (mL_tool 0 k1 x1 x2 M) (pX (fT s) (rI (0) (1)) []) := by
  unfold mL_tool
  refine Sf.t (sX6_tool h_M) (fun M3 r2 p_1 => ?_) (fun M3 e4 p_1 => ?_)
  · skip
    have h_M3 : OKb (fT s) M3 := p_1.1
    have p_1a : (-2147483648 : Int) ≤ (r2).toInt ∧ (r2).toInt ≤ 2147483647 := p_1.2
    have n_2 : ((0 : Int32)).toInt = 0 := rfl
    refine Sf.k (ok_in (by omega) (by omega)) ?_
    refine Sf.b (fun M7 e_M7 => ?_)
    have h_M7 : OKb (fT s) M7 := by rw [e_M7]; exact h_M3.pl
    have z_3 : (0 : Int) ≤ ((0 : Int32)).toInt ∧ ((0 : Int32)).toInt ≤ 1 := ⟨by omega, by omega⟩
    exact Sf.ok ⟨h_M7, z_3⟩
  · have h_M3 : OKb (fT s) M3 := p_1.1
    have p_1e : e4 ∈ [0] := p_1.2
    simp only [List.mem_cons, List.not_mem_nil, or_false] at p_1e
    refine Sf.i (fun c_4 => ?_) (fun c_4 => ?_)
    · skip
      have n_5 : ((1 : Int32)).toInt = 1 := rfl
      have z_6 : (0 : Int) ≤ ((1 : Int32)).toInt ∧ ((1 : Int32)).toInt ≤ 1 := ⟨by omega, by omega⟩
      exact Sf.ok ⟨h_M3, z_6⟩
    · skip
      exfalso; omega
set_option maxHeartbeats 2000000 in
theorem sL_finishedCorner {s : Nat → Int × Int} {k1 : Nat} {x1 : Int32} {x2 : Int32} {M : Mem} (h_M : OKb (fT s) M) : Sf (mL_finishedCorner 0 k1 x1 x2 M) (pX (fT s) (rI (0) (2)) []) := by
  unfold mL_finishedCorner
  refine Sf.t (sX6_finishedCorner h_M) (fun M3 r2 p_1 => ?_) (fun M3 e4 p_1 => ?_)
  · skip
    have h_M3 : OKb (fT s) M3 := p_1.1
    have p_1a : (-2147483648 : Int) ≤ (r2).toInt ∧ (r2).toInt ≤ 2147483647 := p_1.2
    have n_2 : ((0 : Int32)).toInt = 0 := rfl
    refine Sf.k (ok_in (by omega) (by omega)) ?_
    refine Sf.b (fun M7 e_M7 => ?_)
    have h_M7 : OKb (fT s) M7 := by rw [e_M7]; exact h_M3.pl
    have z_3 : (0 : Int) ≤ ((0 : Int32)).toInt ∧ ((0 : Int32)).toInt ≤ 2 := ⟨by omega, by omega⟩
    exact Sf.ok ⟨h_M7, z_3⟩
  · have h_M3 : OKb (fT s) M3 := p_1.1
    have p_1e : e4 ∈ [0, 1] := p_1.2
    simp only [List.mem_cons, List.not_mem_nil, or_false] at p_1e
    refine Sf.i (fun c_4 => ?_) (fun c_4 => ?_)
    · skip
      have n_5 : ((1 : Int32)).toInt = 1 := rfl
      have z_6 : (0 : Int) ≤ ((1 : Int32)).toInt ∧ ((1 : Int32)).toInt ≤ 2 := ⟨by omega, by omega⟩
      exact Sf.ok ⟨h_M3, z_6⟩
    · skip
      refine Sf.i (fun c_7 => ?_) (fun c_7 => ?_)
      · skip
        have n_8 : ((2 : Int32)).toInt = 2 := rfl
        have z_9 : (0 : Int) ≤ ((2 : Int32)).toInt ∧ ((2 : Int32)).toInt ≤ 2 := ⟨by omega, by omega⟩
        exact Sf.ok ⟨h_M3, z_9⟩
      · skip
        exfalso; omega
set_option maxHeartbeats 2000000 in
theorem sL_step {s : Nat → Int × Int} {k1 : Nat} {x1 : Int32} {x2 : Int32} {M : Mem} (h_M : OKb (fT s) M) : Sf (mL_step 0 k1 x1 x2 M) (pX (fT s) (rI (0) (2)) []) := by
  unfold mL_step
  refine Sf.t (sX6_step h_M) (fun M3 r2 p_1 => ?_) (fun M3 e4 p_1 => ?_)
  · skip
    have h_M3 : OKb (fT s) M3 := p_1.1
    have p_1a : (-2147483648 : Int) ≤ (r2).toInt ∧ (r2).toInt ≤ 2147483647 := p_1.2
    have n_2 : ((0 : Int32)).toInt = 0 := rfl
    refine Sf.k (ok_in (by omega) (by omega)) ?_
    refine Sf.b (fun M7 e_M7 => ?_)
    have h_M7 : OKb (fT s) M7 := by rw [e_M7]; exact h_M3.pl
    have z_3 : (0 : Int) ≤ ((0 : Int32)).toInt ∧ ((0 : Int32)).toInt ≤ 2 := ⟨by omega, by omega⟩
    exact Sf.ok ⟨h_M7, z_3⟩
  · have h_M3 : OKb (fT s) M3 := p_1.1
    have p_1e : e4 ∈ [0, 1] := p_1.2
    simp only [List.mem_cons, List.not_mem_nil, or_false] at p_1e
    refine Sf.i (fun c_4 => ?_) (fun c_4 => ?_)
    · skip
      have n_5 : ((1 : Int32)).toInt = 1 := rfl
      have z_6 : (0 : Int) ≤ ((1 : Int32)).toInt ∧ ((1 : Int32)).toInt ≤ 2 := ⟨by omega, by omega⟩
      exact Sf.ok ⟨h_M3, z_6⟩
    · skip
      refine Sf.i (fun c_7 => ?_) (fun c_7 => ?_)
      · skip
        have n_8 : ((2 : Int32)).toInt = 2 := rfl
        have z_9 : (0 : Int) ≤ ((2 : Int32)).toInt ∧ ((2 : Int32)).toInt ≤ 2 := ⟨by omega, by omega⟩
        exact Sf.ok ⟨h_M3, z_9⟩
      · skip
        exfalso; omega
set_option maxHeartbeats 2000000 in
theorem sL_reason {s : Nat → Int × Int} {k1 : Nat} {x1 : Int32} {x2 : Int32} {M : Mem} (h_M : OKb (fT s) M) : Sf (mL_reason 0 k1 x1 x2 M) (pX (fT s) (rI (0) (2)) []) := by
  unfold mL_reason
  refine Sf.t (sX6_reason h_M) (fun M3 r2 p_1 => ?_) (fun M3 e4 p_1 => ?_)
  · skip
    have h_M3 : OKb (fT s) M3 := p_1.1
    have p_1a : (0 : Int) ≤ (r2).toInt ∧ (r2).toInt ≤ 6 := p_1.2
    have n_2 : ((0 : Int32)).toInt = 0 := rfl
    refine Sf.k (ok_in (by omega) (by omega)) ?_
    refine Sf.b (fun M7 e_M7 => ?_)
    have h_M7 : OKb (fT s) M7 := by rw [e_M7]; exact h_M3.pl
    have z_3 : (0 : Int) ≤ ((0 : Int32)).toInt ∧ ((0 : Int32)).toInt ≤ 2 := ⟨by omega, by omega⟩
    exact Sf.ok ⟨h_M7, z_3⟩
  · have h_M3 : OKb (fT s) M3 := p_1.1
    have p_1e : e4 ∈ [0, 1] := p_1.2
    simp only [List.mem_cons, List.not_mem_nil, or_false] at p_1e
    refine Sf.i (fun c_4 => ?_) (fun c_4 => ?_)
    · skip
      have n_5 : ((1 : Int32)).toInt = 1 := rfl
      have z_6 : (0 : Int) ≤ ((1 : Int32)).toInt ∧ ((1 : Int32)).toInt ≤ 2 := ⟨by omega, by omega⟩
      exact Sf.ok ⟨h_M3, z_6⟩
    · skip
      refine Sf.i (fun c_7 => ?_) (fun c_7 => ?_)
      · skip
        have n_8 : ((2 : Int32)).toInt = 2 := rfl
        have z_9 : (0 : Int) ≤ ((2 : Int32)).toInt ∧ ((2 : Int32)).toInt ≤ 2 := ⟨by omega, by omega⟩
        exact Sf.ok ⟨h_M3, z_9⟩
      · skip
        exfalso; omega
set_option maxHeartbeats 2000000 in
theorem sL_gauge {s : Nat → Int × Int} {k1 : Nat} {x1 : Int32} {x2 : Int32} {M : Mem} (h_M : OKb (fT s) M) : Sf (mL_gauge 0 k1 x1 x2 M) (pX (fT s) (rI (0) (2)) []) := by
  unfold mL_gauge
  refine Sf.t (sX6_gauge h_M) (fun M3 r2 p_1 => ?_) (fun M3 e4 p_1 => ?_)
  · skip
    have h_M3 : OKb (fT s) M3 := p_1.1
    have p_1a : (0 : Int) ≤ (r2).toInt ∧ (r2).toInt ≤ 2147483647 := p_1.2
    have n_2 : ((0 : Int32)).toInt = 0 := rfl
    refine Sf.k (ok_in (by omega) (by omega)) ?_
    refine Sf.b (fun M7 e_M7 => ?_)
    have h_M7 : OKb (fT s) M7 := by rw [e_M7]; exact h_M3.pl
    have z_3 : (0 : Int) ≤ ((0 : Int32)).toInt ∧ ((0 : Int32)).toInt ≤ 2 := ⟨by omega, by omega⟩
    exact Sf.ok ⟨h_M7, z_3⟩
  · have h_M3 : OKb (fT s) M3 := p_1.1
    have p_1e : e4 ∈ [0, 1] := p_1.2
    simp only [List.mem_cons, List.not_mem_nil, or_false] at p_1e
    refine Sf.i (fun c_4 => ?_) (fun c_4 => ?_)
    · skip
      have n_5 : ((1 : Int32)).toInt = 1 := rfl
      have z_6 : (0 : Int) ≤ ((1 : Int32)).toInt ∧ ((1 : Int32)).toInt ≤ 2 := ⟨by omega, by omega⟩
      exact Sf.ok ⟨h_M3, z_6⟩
    · skip
      refine Sf.i (fun c_7 => ?_) (fun c_7 => ?_)
      · skip
        have n_8 : ((2 : Int32)).toInt = 2 := rfl
        have z_9 : (0 : Int) ≤ ((2 : Int32)).toInt ∧ ((2 : Int32)).toInt ≤ 2 := ⟨by omega, by omega⟩
        exact Sf.ok ⟨h_M3, z_9⟩
      · skip
        exfalso; omega
set_option maxHeartbeats 2000000 in
theorem sL_corner {s : Nat → Int × Int} {k1 : Nat} {x1 : Int32} {x2 : Int32} {x3 : Int32} {x4 : Int32} {M : Mem} (h_M : OKb (fT s) M) : Sf (mL_corner 0 k1 x1 x2 x3 x4 M) (pX (fT s) (rI (0) (2)) []) := by
  unfold mL_corner
  refine Sf.t (sX6_corner h_M) (fun M3 r2 p_1 => ?_) (fun M3 e4 p_1 => ?_)
  · skip
    have h_M3 : OKb (fT s) M3 := p_1.1
    have p_1a : (-2147483648 : Int) ≤ (r2).toInt ∧ (r2).toInt ≤ 2147483647 := p_1.2
    have n_2 : ((0 : Int32)).toInt = 0 := rfl
    refine Sf.k (ok_in (by omega) (by omega)) ?_
    refine Sf.b (fun M7 e_M7 => ?_)
    have h_M7 : OKb (fT s) M7 := by rw [e_M7]; exact h_M3.pl
    have z_3 : (0 : Int) ≤ ((0 : Int32)).toInt ∧ ((0 : Int32)).toInt ≤ 2 := ⟨by omega, by omega⟩
    exact Sf.ok ⟨h_M7, z_3⟩
  · have h_M3 : OKb (fT s) M3 := p_1.1
    have p_1e : e4 ∈ [0, 1] := p_1.2
    simp only [List.mem_cons, List.not_mem_nil, or_false] at p_1e
    refine Sf.i (fun c_4 => ?_) (fun c_4 => ?_)
    · skip
      have n_5 : ((1 : Int32)).toInt = 1 := rfl
      have z_6 : (0 : Int) ≤ ((1 : Int32)).toInt ∧ ((1 : Int32)).toInt ≤ 2 := ⟨by omega, by omega⟩
      exact Sf.ok ⟨h_M3, z_6⟩
    · skip
      refine Sf.i (fun c_7 => ?_) (fun c_7 => ?_)
      · skip
        have n_8 : ((2 : Int32)).toInt = 2 := rfl
        have z_9 : (0 : Int) ≤ ((2 : Int32)).toInt ∧ ((2 : Int32)).toInt ≤ 2 := ⟨by omega, by omega⟩
        exact Sf.ok ⟨h_M3, z_9⟩
      · skip
        exfalso; omega
set_option maxHeartbeats 2000000 in
theorem sL_top {s : Nat → Int × Int} {k1 : Nat} {x1 : Int32} {x2 : Int32} {M : Mem} (h_M : OKb (fT s) M) : Sf (mL_top 0 k1 x1 x2 M) (pX (fT s) (rI (0) (2)) []) := by
  unfold mL_top
  refine Sf.t (sX6_top h_M) (fun M3 r2 p_1 => ?_) (fun M3 e4 p_1 => ?_)
  · skip
    have h_M3 : OKb (fT s) M3 := p_1.1
    have p_1a : (0 : Int) ≤ (r2).toInt ∧ (r2).toInt ≤ 2147483647 := p_1.2
    have n_2 : ((0 : Int32)).toInt = 0 := rfl
    refine Sf.k (ok_in (by omega) (by omega)) ?_
    refine Sf.b (fun M7 e_M7 => ?_)
    have h_M7 : OKb (fT s) M7 := by rw [e_M7]; exact h_M3.pl
    have z_3 : (0 : Int) ≤ ((0 : Int32)).toInt ∧ ((0 : Int32)).toInt ≤ 2 := ⟨by omega, by omega⟩
    exact Sf.ok ⟨h_M7, z_3⟩
  · have h_M3 : OKb (fT s) M3 := p_1.1
    have p_1e : e4 ∈ [0, 1] := p_1.2
    simp only [List.mem_cons, List.not_mem_nil, or_false] at p_1e
    refine Sf.i (fun c_4 => ?_) (fun c_4 => ?_)
    · skip
      have n_5 : ((1 : Int32)).toInt = 1 := rfl
      have z_6 : (0 : Int) ≤ ((1 : Int32)).toInt ∧ ((1 : Int32)).toInt ≤ 2 := ⟨by omega, by omega⟩
      exact Sf.ok ⟨h_M3, z_6⟩
    · skip
      refine Sf.i (fun c_7 => ?_) (fun c_7 => ?_)
      · skip
        have n_8 : ((2 : Int32)).toInt = 2 := rfl
        have z_9 : (0 : Int) ≤ ((2 : Int32)).toInt ∧ ((2 : Int32)).toInt ≤ 2 := ⟨by omega, by omega⟩
        exact Sf.ok ⟨h_M3, z_9⟩
      · skip
        exfalso; omega
set_option maxHeartbeats 2000000 in
theorem sL_hitting {s : Nat → Int × Int} {k1 : Nat} {x1 : Int32} {x2 : Int32} {M : Mem} (h_M : OKb (fT s) M) : Sf (mL_hitting 0 k1 x1 x2 M) (pX (fT s) (rI (0) (2)) []) := by
  unfold mL_hitting
  refine Sf.t (sX6_hitting h_M) (fun M3 r2 p_1 => ?_) (fun M3 e4 p_1 => ?_)
  · skip
    have h_M3 : OKb (fT s) M3 := p_1.1
    have p_1a : (0 : Int) ≤ (r2).toInt ∧ (r2).toInt ≤ 4095 := p_1.2
    have n_2 : ((0 : Int32)).toInt = 0 := rfl
    refine Sf.k (ok_in (by omega) (by omega)) ?_
    refine Sf.b (fun M7 e_M7 => ?_)
    have h_M7 : OKb (fT s) M7 := by rw [e_M7]; exact h_M3.pl
    have z_3 : (0 : Int) ≤ ((0 : Int32)).toInt ∧ ((0 : Int32)).toInt ≤ 2 := ⟨by omega, by omega⟩
    exact Sf.ok ⟨h_M7, z_3⟩
  · have h_M3 : OKb (fT s) M3 := p_1.1
    have p_1e : e4 ∈ [0, 1] := p_1.2
    simp only [List.mem_cons, List.not_mem_nil, or_false] at p_1e
    refine Sf.i (fun c_4 => ?_) (fun c_4 => ?_)
    · skip
      have n_5 : ((1 : Int32)).toInt = 1 := rfl
      have z_6 : (0 : Int) ≤ ((1 : Int32)).toInt ∧ ((1 : Int32)).toInt ≤ 2 := ⟨by omega, by omega⟩
      exact Sf.ok ⟨h_M3, z_6⟩
    · skip
      refine Sf.i (fun c_7 => ?_) (fun c_7 => ?_)
      · skip
        have n_8 : ((2 : Int32)).toInt = 2 := rfl
        have z_9 : (0 : Int) ≤ ((2 : Int32)).toInt ∧ ((2 : Int32)).toInt ≤ 2 := ⟨by omega, by omega⟩
        exact Sf.ok ⟨h_M3, z_9⟩
      · skip
        exfalso; omega
set_option maxHeartbeats 2000000 in
theorem sL_refused {s : Nat → Int × Int} {k1 : Nat} {x1 : Int32} {M : Mem} (h_M : OKb (fT s) M) : Sf (mL_refused 0 k1 x1 M) (pX (fT s) (rI (0) (1)) []) := by
  unfold mL_refused
  refine Sf.t (sX6_refused h_M) (fun M3 r2 p_1 => ?_) (fun M3 e4 p_1 => ?_)
  · skip
    have h_M3 : OKb (fT s) M3 := p_1.1
    have p_1a : (-2147483648 : Int) ≤ (r2).toInt ∧ (r2).toInt ≤ 2147483647 := p_1.2
    have n_2 : ((0 : Int32)).toInt = 0 := rfl
    refine Sf.k (ok_in (by omega) (by omega)) ?_
    refine Sf.b (fun M7 e_M7 => ?_)
    have h_M7 : OKb (fT s) M7 := by rw [e_M7]; exact h_M3.pl
    have z_3 : (0 : Int) ≤ ((0 : Int32)).toInt ∧ ((0 : Int32)).toInt ≤ 1 := ⟨by omega, by omega⟩
    exact Sf.ok ⟨h_M7, z_3⟩
  · have h_M3 : OKb (fT s) M3 := p_1.1
    have p_1e : e4 ∈ [0] := p_1.2
    simp only [List.mem_cons, List.not_mem_nil, or_false] at p_1e
    refine Sf.i (fun c_4 => ?_) (fun c_4 => ?_)
    · skip
      have n_5 : ((1 : Int32)).toInt = 1 := rfl
      have z_6 : (0 : Int) ≤ ((1 : Int32)).toInt ∧ ((1 : Int32)).toInt ≤ 1 := ⟨by omega, by omega⟩
      exact Sf.ok ⟨h_M3, z_6⟩
    · skip
      exfalso; omega
set_option maxHeartbeats 2000000 in
theorem sL_costOf {s : Nat → Int × Int} {k1 : Nat} {x1 : Int32} {x2 : Int32} {M : Mem} (h_M : OKb (fT s) M) : Sf (mL_costOf 0 k1 x1 x2 M) (pX (fT s) (rI (0) (2)) []) := by
  unfold mL_costOf
  refine Sf.t (sX6_costOf h_M) (fun M3 r2 p_1 => ?_) (fun M3 e4 p_1 => ?_)
  · skip
    have h_M3 : OKb (fT s) M3 := p_1.1
    have p_1a : (0 : Int) ≤ (r2).toInt ∧ (r2).toInt ≤ 297 := p_1.2
    have n_2 : ((0 : Int32)).toInt = 0 := rfl
    refine Sf.k (ok_in (by omega) (by omega)) ?_
    refine Sf.b (fun M7 e_M7 => ?_)
    have h_M7 : OKb (fT s) M7 := by rw [e_M7]; exact h_M3.pl
    have z_3 : (0 : Int) ≤ ((0 : Int32)).toInt ∧ ((0 : Int32)).toInt ≤ 2 := ⟨by omega, by omega⟩
    exact Sf.ok ⟨h_M7, z_3⟩
  · have h_M3 : OKb (fT s) M3 := p_1.1
    have p_1e : e4 ∈ [0, 1] := p_1.2
    simp only [List.mem_cons, List.not_mem_nil, or_false] at p_1e
    refine Sf.i (fun c_4 => ?_) (fun c_4 => ?_)
    · skip
      have n_5 : ((1 : Int32)).toInt = 1 := rfl
      have z_6 : (0 : Int) ≤ ((1 : Int32)).toInt ∧ ((1 : Int32)).toInt ≤ 2 := ⟨by omega, by omega⟩
      exact Sf.ok ⟨h_M3, z_6⟩
    · skip
      refine Sf.i (fun c_7 => ?_) (fun c_7 => ?_)
      · skip
        have n_8 : ((2 : Int32)).toInt = 2 := rfl
        have z_9 : (0 : Int) ≤ ((2 : Int32)).toInt ∧ ((2 : Int32)).toInt ≤ 2 := ⟨by omega, by omega⟩
        exact Sf.ok ⟨h_M3, z_9⟩
      · skip
        exfalso; omega
set_option maxHeartbeats 2000000 in
theorem sL_planned {s : Nat → Int × Int} {k1 : Nat} {x1 : Int32} {M : Mem} (h_M : OKb (fT s) M) : Sf (mL_planned 0 k1 x1 M) (pX (fT s) (rI (0) (1)) []) := by
  unfold mL_planned
  refine Sf.t (sX6_planned h_M) (fun M3 r2 p_1 => ?_) (fun M3 e4 p_1 => ?_)
  · skip
    have h_M3 : OKb (fT s) M3 := p_1.1
    have p_1a : (0 : Int) ≤ (r2).toInt ∧ (r2).toInt ≤ 15 := p_1.2
    have n_2 : ((0 : Int32)).toInt = 0 := rfl
    refine Sf.k (ok_in (by omega) (by omega)) ?_
    refine Sf.b (fun M7 e_M7 => ?_)
    have h_M7 : OKb (fT s) M7 := by rw [e_M7]; exact h_M3.pl
    have z_3 : (0 : Int) ≤ ((0 : Int32)).toInt ∧ ((0 : Int32)).toInt ≤ 1 := ⟨by omega, by omega⟩
    exact Sf.ok ⟨h_M7, z_3⟩
  · have h_M3 : OKb (fT s) M3 := p_1.1
    have p_1e : e4 ∈ [1] := p_1.2
    simp only [List.mem_cons, List.not_mem_nil, or_false] at p_1e
    refine Sf.i (fun c_4 => ?_) (fun c_4 => ?_)
    · skip
      have n_5 : ((1 : Int32)).toInt = 1 := rfl
      have z_6 : (0 : Int) ≤ ((1 : Int32)).toInt ∧ ((1 : Int32)).toInt ≤ 1 := ⟨by omega, by omega⟩
      exact Sf.ok ⟨h_M3, z_6⟩
    · skip
      exfalso; omega
set_option maxHeartbeats 2000000 in
theorem sL_ordersWith {s : Nat → Int × Int} {k1 : Nat} {x1 : Int32} {x2 : Int32} {M : Mem} (h_M : OKb (fT s) M) : Sf (mL_ordersWith 0 k1 x1 x2 M) (pX (fT s) (rI (0) (2)) []) := by
  unfold mL_ordersWith
  refine Sf.t (sX6_ordersWith h_M) (fun M3 r2 p_1 => ?_) (fun M3 e4 p_1 => ?_)
  · skip
    have h_M3 : OKb (fT s) M3 := p_1.1
    have n_2 : ((0 : Int32)).toInt = 0 := rfl
    refine Sf.k (ok_in (by omega) (by omega)) ?_
    refine Sf.b (fun M7 e_M7 => ?_)
    have h_M7 : OKb (fT s) M7 := by rw [e_M7]; exact h_M3.pl
    have z_3 : (0 : Int) ≤ ((0 : Int32)).toInt ∧ ((0 : Int32)).toInt ≤ 2 := ⟨by omega, by omega⟩
    exact Sf.ok ⟨h_M7, z_3⟩
  · have h_M3 : OKb (fT s) M3 := p_1.1
    have p_1e : e4 ∈ [0, 1] := p_1.2
    simp only [List.mem_cons, List.not_mem_nil, or_false] at p_1e
    refine Sf.i (fun c_4 => ?_) (fun c_4 => ?_)
    · skip
      have n_5 : ((1 : Int32)).toInt = 1 := rfl
      have z_6 : (0 : Int) ≤ ((1 : Int32)).toInt ∧ ((1 : Int32)).toInt ≤ 2 := ⟨by omega, by omega⟩
      exact Sf.ok ⟨h_M3, z_6⟩
    · skip
      refine Sf.i (fun c_7 => ?_) (fun c_7 => ?_)
      · skip
        have n_8 : ((2 : Int32)).toInt = 2 := rfl
        have z_9 : (0 : Int) ≤ ((2 : Int32)).toInt ∧ ((2 : Int32)).toInt ≤ 2 := ⟨by omega, by omega⟩
        exact Sf.ok ⟨h_M3, z_9⟩
      · skip
        exfalso; omega
set_option maxHeartbeats 2000000 in
theorem sL_costIfTurned {s : Nat → Int × Int} {k1 : Nat} {x1 : Int32} {M : Mem} (h_M : OKb (fT s) M) : Sf (mL_costIfTurned 0 k1 x1 M) (pX (fT s) (rI (0) (2)) []) := by
  unfold mL_costIfTurned
  refine Sf.t (sX6_costIfTurned h_M) (fun M3 r2 p_1 => ?_) (fun M3 e4 p_1 => ?_)
  · skip
    have h_M3 : OKb (fT s) M3 := p_1.1
    have p_1a : (-2147483648 : Int) ≤ (r2).toInt ∧ (r2).toInt ≤ 2147483647 := p_1.2
    have n_2 : ((0 : Int32)).toInt = 0 := rfl
    refine Sf.k (ok_in (by omega) (by omega)) ?_
    refine Sf.b (fun M7 e_M7 => ?_)
    have h_M7 : OKb (fT s) M7 := by rw [e_M7]; exact h_M3.pl
    have z_3 : (0 : Int) ≤ ((0 : Int32)).toInt ∧ ((0 : Int32)).toInt ≤ 2 := ⟨by omega, by omega⟩
    exact Sf.ok ⟨h_M7, z_3⟩
  · have h_M3 : OKb (fT s) M3 := p_1.1
    have p_1e : e4 ∈ [1, 2] := p_1.2
    simp only [List.mem_cons, List.not_mem_nil, or_false] at p_1e
    refine Sf.i (fun c_4 => ?_) (fun c_4 => ?_)
    · skip
      have n_5 : ((1 : Int32)).toInt = 1 := rfl
      have z_6 : (0 : Int) ≤ ((1 : Int32)).toInt ∧ ((1 : Int32)).toInt ≤ 2 := ⟨by omega, by omega⟩
      exact Sf.ok ⟨h_M3, z_6⟩
    · skip
      refine Sf.i (fun c_7 => ?_) (fun c_7 => ?_)
      · skip
        have n_8 : ((2 : Int32)).toInt = 2 := rfl
        have z_9 : (0 : Int) ≤ ((2 : Int32)).toInt ∧ ((2 : Int32)).toInt ≤ 2 := ⟨by omega, by omega⟩
        exact Sf.ok ⟨h_M3, z_9⟩
      · skip
        exfalso; omega
set_option maxHeartbeats 2000000 in
theorem sL_fold {s : Nat → Int × Int} {k1 : Nat} {x1 : Int32} {x2 : Int32} {M : Mem} (h_M : OKb (fT s) M) : Sf (mL_fold 0 k1 x1 x2 M) (pX (fT s) (rI (0) (3)) []) := by
  unfold mL_fold
  refine Sf.t (sX6_fold h_M) (fun M3 r2 p_1 => ?_) (fun M3 e4 p_1 => ?_)
  · skip
    have h_M3 : OKb (fT s) M3 := p_1.1
    have p_1a : (0 : Int) ≤ (r2).toInt ∧ (r2).toInt ≤ 297 := p_1.2
    have n_2 : ((0 : Int32)).toInt = 0 := rfl
    refine Sf.k (ok_in (by omega) (by omega)) ?_
    refine Sf.b (fun M7 e_M7 => ?_)
    have h_M7 : OKb (fT s) M7 := by rw [e_M7]; exact h_M3.pl
    have z_3 : (0 : Int) ≤ ((0 : Int32)).toInt ∧ ((0 : Int32)).toInt ≤ 3 := ⟨by omega, by omega⟩
    exact Sf.ok ⟨h_M7, z_3⟩
  · have h_M3 : OKb (fT s) M3 := p_1.1
    have p_1e : e4 ∈ [0, 1, 2] := p_1.2
    simp only [List.mem_cons, List.not_mem_nil, or_false] at p_1e
    refine Sf.i (fun c_4 => ?_) (fun c_4 => ?_)
    · skip
      have n_5 : ((1 : Int32)).toInt = 1 := rfl
      have z_6 : (0 : Int) ≤ ((1 : Int32)).toInt ∧ ((1 : Int32)).toInt ≤ 3 := ⟨by omega, by omega⟩
      exact Sf.ok ⟨h_M3, z_6⟩
    · skip
      refine Sf.i (fun c_7 => ?_) (fun c_7 => ?_)
      · skip
        have n_8 : ((2 : Int32)).toInt = 2 := rfl
        have z_9 : (0 : Int) ≤ ((2 : Int32)).toInt ∧ ((2 : Int32)).toInt ≤ 3 := ⟨by omega, by omega⟩
        exact Sf.ok ⟨h_M3, z_9⟩
      · skip
        refine Sf.i (fun c_10 => ?_) (fun c_10 => ?_)
        · skip
          have n_11 : ((3 : Int32)).toInt = 3 := rfl
          have z_12 : (0 : Int) ≤ ((3 : Int32)).toInt ∧ ((3 : Int32)).toInt ≤ 3 := ⟨by omega, by omega⟩
          exact Sf.ok ⟨h_M3, z_12⟩
        · skip
          exfalso; omega
set_option maxHeartbeats 2000000 in
theorem sL_foldNext {s : Nat → Int × Int} {k1 : Nat} {M : Mem} (h_M : OKb (fT s) M) : Sf (mL_foldNext 0 k1 M) (pX (fT s) (rI (0) (1)) []) := by
  unfold mL_foldNext
  refine Sf.t (sX6_foldNext h_M) (fun M3 r2 p_1 => ?_) (fun M3 e4 p_1 => ?_)
  · skip
    have h_M3 : OKb (fT s) M3 := p_1.1
    have p_1a : (0 : Int) ≤ (r2).toInt ∧ (r2).toInt ≤ 15 := p_1.2
    have n_2 : ((0 : Int32)).toInt = 0 := rfl
    refine Sf.k (ok_in (by omega) (by omega)) ?_
    refine Sf.b (fun M7 e_M7 => ?_)
    have h_M7 : OKb (fT s) M7 := by rw [e_M7]; exact h_M3.pl
    have z_3 : (0 : Int) ≤ ((0 : Int32)).toInt ∧ ((0 : Int32)).toInt ≤ 1 := ⟨by omega, by omega⟩
    exact Sf.ok ⟨h_M7, z_3⟩
  · have h_M3 : OKb (fT s) M3 := p_1.1
    have p_1e : e4 ∈ [2] := p_1.2
    simp only [List.mem_cons, List.not_mem_nil, or_false] at p_1e
    refine Sf.i (fun c_4 => ?_) (fun c_4 => ?_)
    · skip
      have n_5 : ((1 : Int32)).toInt = 1 := rfl
      have z_6 : (0 : Int) ≤ ((1 : Int32)).toInt ∧ ((1 : Int32)).toInt ≤ 1 := ⟨by omega, by omega⟩
      exact Sf.ok ⟨h_M3, z_6⟩
    · skip
      exfalso; omega
set_option maxHeartbeats 2000000 in
theorem sL_setLeg {s : Nat → Int × Int} {k1 : Nat} {x1 : Int32} {x2 : Int32} {M : Mem} (h_M : OKb (fT s) M) : Sf (mL_setLeg 0 k1 x1 x2 M) (pX (fT s) (rI (0) (3)) []) := by
  unfold mL_setLeg
  refine Sf.t (sX6_setLeg h_M) (fun M3 r2 p_1 => ?_) (fun M3 e4 p_1 => ?_)
  · skip
    have h_M3 : OKb (fT s) M3 := p_1.1
    have p_1a : (0 : Int) ≤ (r2).toInt ∧ (r2).toInt ≤ 9999 := p_1.2
    have n_2 : ((0 : Int32)).toInt = 0 := rfl
    refine Sf.k (ok_in (by omega) (by omega)) ?_
    refine Sf.b (fun M7 e_M7 => ?_)
    have h_M7 : OKb (fT s) M7 := by rw [e_M7]; exact h_M3.pl
    have z_3 : (0 : Int) ≤ ((0 : Int32)).toInt ∧ ((0 : Int32)).toInt ≤ 3 := ⟨by omega, by omega⟩
    exact Sf.ok ⟨h_M7, z_3⟩
  · have h_M3 : OKb (fT s) M3 := p_1.1
    have p_1e : e4 ∈ [0, 1, 2] := p_1.2
    simp only [List.mem_cons, List.not_mem_nil, or_false] at p_1e
    refine Sf.i (fun c_4 => ?_) (fun c_4 => ?_)
    · skip
      have n_5 : ((1 : Int32)).toInt = 1 := rfl
      have z_6 : (0 : Int) ≤ ((1 : Int32)).toInt ∧ ((1 : Int32)).toInt ≤ 3 := ⟨by omega, by omega⟩
      exact Sf.ok ⟨h_M3, z_6⟩
    · skip
      refine Sf.i (fun c_7 => ?_) (fun c_7 => ?_)
      · skip
        have n_8 : ((2 : Int32)).toInt = 2 := rfl
        have z_9 : (0 : Int) ≤ ((2 : Int32)).toInt ∧ ((2 : Int32)).toInt ≤ 3 := ⟨by omega, by omega⟩
        exact Sf.ok ⟨h_M3, z_9⟩
      · skip
        refine Sf.i (fun c_10 => ?_) (fun c_10 => ?_)
        · skip
          have n_11 : ((3 : Int32)).toInt = 3 := rfl
          have z_12 : (0 : Int) ≤ ((3 : Int32)).toInt ∧ ((3 : Int32)).toInt ≤ 3 := ⟨by omega, by omega⟩
          exact Sf.ok ⟨h_M3, z_12⟩
        · skip
          exfalso; omega
set_option maxHeartbeats 2000000 in
theorem sL_setDirection_b16 {s : Nat → Int × Int} {k1 : Nat} {y1 : Int32} {y2 : Int64} {M : Mem} (h_M : OKb (fT s) M) (hy1 : (0 : Int) ≤ (y1).toInt ∧ (y1).toInt ≤ 0) : Sf (mL_setDirection_b16 0 k1 y1 y2 M) (pX (fT s) (rI (0) (2)) []) := by
  unfold mL_setDirection_b16
  refine Sf.k (ok_in (by omega) (by omega)) ?_
  refine Sf.b (fun M8 e_M8 => ?_)
  have h_M8 : OKb (fT s) M8 := by rw [e_M8]; exact h_M.pl
  have n_1 : ((0 : Int32)).toInt = 0 := rfl
  have z_2 : (0 : Int) ≤ ((0 : Int32)).toInt ∧ ((0 : Int32)).toInt ≤ 2 := ⟨by omega, by omega⟩
  exact Sf.ok ⟨h_M8, z_2⟩
set_option maxHeartbeats 2000000 in
theorem sL_setDirection {s : Nat → Int × Int} {k1 : Nat} {x1 : Int32} {x2 : Int32} {M : Mem} (h_M : OKb (fT s) M) : Sf (mL_setDirection 0 k1 x1 x2 M) (pX (fT s) (rI (0) (2)) []) := by
  unfold mL_setDirection
  refine Sf.t (sX6_setDirection h_M) (fun M3 r2 p_1 => ?_) (fun M3 e4 p_1 => ?_)
  · skip
    have h_M3 : OKb (fT s) M3 := p_1.1
    have p_1a : (0 : Int) ≤ (r2).toInt ∧ (r2).toInt ≤ 1 := p_1.2
    have n_2 : ((0 : Int32)).toInt = 0 := rfl
    refine Sf.i (fun c_3 => ?_) (fun c_3 => ?_)
    · have c_3 := i_eq.mp c_3
      have n_4 : ((0 : Int32)).toInt = 0 := rfl
      exact (sL_setDirection_b16 h_M3 ⟨by omega, by omega⟩)
    · have c_3 := i_ne c_3
      have n_5 : ((0 : Int32)).toInt = 0 := rfl
      exact (sL_setDirection_b16 h_M3 ⟨by omega, by omega⟩)
  · have h_M3 : OKb (fT s) M3 := p_1.1
    have p_1e : e4 ∈ [1, 2] := p_1.2
    simp only [List.mem_cons, List.not_mem_nil, or_false] at p_1e
    refine Sf.i (fun c_6 => ?_) (fun c_6 => ?_)
    · skip
      have n_7 : ((1 : Int32)).toInt = 1 := rfl
      have z_8 : (0 : Int) ≤ ((1 : Int32)).toInt ∧ ((1 : Int32)).toInt ≤ 2 := ⟨by omega, by omega⟩
      exact Sf.ok ⟨h_M3, z_8⟩
    · skip
      refine Sf.i (fun c_9 => ?_) (fun c_9 => ?_)
      · skip
        have n_10 : ((2 : Int32)).toInt = 2 := rfl
        have z_11 : (0 : Int) ≤ ((2 : Int32)).toInt ∧ ((2 : Int32)).toInt ≤ 2 := ⟨by omega, by omega⟩
        exact Sf.ok ⟨h_M3, z_11⟩
      · skip
        exfalso; omega
set_option maxHeartbeats 2000000 in
theorem sL_setTool {s : Nat → Int × Int} {k1 : Nat} {x1 : Int32} {x2 : Int32} {x3 : Int32} {M : Mem} (h_M : OKb (fT s) M) : Sf (mL_setTool 0 k1 x1 x2 x3 M) (pX (fT s) (rI (0) (1)) []) := by
  unfold mL_setTool
  refine Sf.t (sX6_setTool h_M) (fun M3 r2 p_1 => ?_) (fun M3 e4 p_1 => ?_)
  · skip
    have h_M3 : OKb (fT s) M3 := p_1.1
    have p_1a : (-2147483648 : Int) ≤ (r2).toInt ∧ (r2).toInt ≤ 2147483647 := p_1.2
    have n_2 : ((0 : Int32)).toInt = 0 := rfl
    refine Sf.k (ok_in (by omega) (by omega)) ?_
    refine Sf.b (fun M7 e_M7 => ?_)
    have h_M7 : OKb (fT s) M7 := by rw [e_M7]; exact h_M3.pl
    have z_3 : (0 : Int) ≤ ((0 : Int32)).toInt ∧ ((0 : Int32)).toInt ≤ 1 := ⟨by omega, by omega⟩
    exact Sf.ok ⟨h_M7, z_3⟩
  · have h_M3 : OKb (fT s) M3 := p_1.1
    have p_1e : e4 ∈ [0] := p_1.2
    simp only [List.mem_cons, List.not_mem_nil, or_false] at p_1e
    refine Sf.i (fun c_4 => ?_) (fun c_4 => ?_)
    · skip
      have n_5 : ((1 : Int32)).toInt = 1 := rfl
      have z_6 : (0 : Int) ≤ ((1 : Int32)).toInt ∧ ((1 : Int32)).toInt ≤ 1 := ⟨by omega, by omega⟩
      exact Sf.ok ⟨h_M3, z_6⟩
    · skip
      exfalso; omega
set_option maxHeartbeats 2000000 in
theorem sL_setSheet {s : Nat → Int × Int} {k1 : Nat} {x1 : Int32} {x2 : Int32} {x3 : Int32} {M : Mem} (h_M : OKb (fT s) M) : Sf (mL_setSheet 0 k1 x1 x2 x3 M) (pX (fT s) (rI (0) (1)) []) := by
  unfold mL_setSheet
  refine Sf.t (sX6_setSheet h_M) (fun M3 r2 p_1 => ?_) (fun M3 e4 p_1 => ?_)
  · skip
    have h_M3 : OKb (fT s) M3 := p_1.1
    have p_1a : (-2147483648 : Int) ≤ (r2).toInt ∧ (r2).toInt ≤ 2147483647 := p_1.2
    have n_2 : ((0 : Int32)).toInt = 0 := rfl
    refine Sf.k (ok_in (by omega) (by omega)) ?_
    refine Sf.b (fun M7 e_M7 => ?_)
    have h_M7 : OKb (fT s) M7 := by rw [e_M7]; exact h_M3.pl
    have z_3 : (0 : Int) ≤ ((0 : Int32)).toInt ∧ ((0 : Int32)).toInt ≤ 1 := ⟨by omega, by omega⟩
    exact Sf.ok ⟨h_M7, z_3⟩
  · have h_M3 : OKb (fT s) M3 := p_1.1
    have p_1e : e4 ∈ [0] := p_1.2
    simp only [List.mem_cons, List.not_mem_nil, or_false] at p_1e
    refine Sf.i (fun c_4 => ?_) (fun c_4 => ?_)
    · skip
      have n_5 : ((1 : Int32)).toInt = 1 := rfl
      have z_6 : (0 : Int) ≤ ((1 : Int32)).toInt ∧ ((1 : Int32)).toInt ≤ 1 := ⟨by omega, by omega⟩
      exact Sf.ok ⟨h_M3, z_6⟩
    · skip
      exfalso; omega
set_option maxHeartbeats 2000000 in
theorem sL_setCost {s : Nat → Int × Int} {k1 : Nat} {x1 : Int32} {x2 : Int32} {x3 : Int32} {M : Mem} (h_M : OKb (fT s) M) : Sf (mL_setCost 0 k1 x1 x2 x3 M) (pX (fT s) (rI (0) (1)) []) := by
  unfold mL_setCost
  refine Sf.t (sX6_setCost h_M) (fun M3 r2 p_1 => ?_) (fun M3 e4 p_1 => ?_)
  · skip
    have h_M3 : OKb (fT s) M3 := p_1.1
    have p_1a : (0 : Int) ≤ (r2).toInt ∧ (r2).toInt ≤ 99 := p_1.2
    have n_2 : ((0 : Int32)).toInt = 0 := rfl
    refine Sf.k (ok_in (by omega) (by omega)) ?_
    refine Sf.b (fun M7 e_M7 => ?_)
    have h_M7 : OKb (fT s) M7 := by rw [e_M7]; exact h_M3.pl
    have z_3 : (0 : Int) ≤ ((0 : Int32)).toInt ∧ ((0 : Int32)).toInt ≤ 1 := ⟨by omega, by omega⟩
    exact Sf.ok ⟨h_M7, z_3⟩
  · have h_M3 : OKb (fT s) M3 := p_1.1
    have p_1e : e4 ∈ [0] := p_1.2
    simp only [List.mem_cons, List.not_mem_nil, or_false] at p_1e
    refine Sf.i (fun c_4 => ?_) (fun c_4 => ?_)
    · skip
      have n_5 : ((1 : Int32)).toInt = 1 := rfl
      have z_6 : (0 : Int) ≤ ((1 : Int32)).toInt ∧ ((1 : Int32)).toInt ≤ 1 := ⟨by omega, by omega⟩
      exact Sf.ok ⟨h_M3, z_6⟩
    · skip
      exfalso; omega
end
/-! part 56b.dbl3 -/
section
section D6
variable {s : Nat → Int × Int} {M : Mem}
theorem sX6_deduction (_ : OKb (fT s) M) : Sf (mX6_deduction 0 M) pD := by
  unfold mX6_deduction
  exact Sf.c sX1_deductionOfBend (fun r _ => Sf.ok trivial)
theorem sX6_ratio (_ : OKb (fT s) M) : Sf (mX6_ratio 0 M) pD := by
  unfold mX6_ratio
  exact Sf.c sX1_ratioOfSheet (fun r _ => Sf.ok trivial)
theorem sX6_springBack (h_M : OKb (fT s) M) : Sf (mX6_springBack 0 M) pD := by
  unfold mX6_springBack
  exact Sf.c sX1_ratioOfSheet (fun r h => Sf.c (sX1_springBackAt isP_5 h_M h) (fun _ _ => Sf.ok trivial))
theorem sX6_swingAngle (h_M : OKb (fT s) M) : Sf (mX6_swingAngle 0 M) (fun _ => True) := by
  unfold mX6_swingAngle
  exact Sf.c sX1_ratioOfSheet (fun r h => Sf.c (sX1_springBackAt isP_5 h_M h) (fun _ _ => Sf.ok trivial))
theorem sX6_flatLength (h_M : OKb (fT s) M) : Sf (mX6_flatLength 0 M) pD := by
  unfold mX6_flatLength
  have b : (0 : Int) ≤ (rd M 5 0).toInt ∧ (rd M 5 0).toInt ≤ 9 := h_M.at rfl
  refine Sf.i (fun _ => Sf.ok trivial) (fun c => Sf.c (sX1_sumOfLegs isP_5 h_M ⟨by have := i_ne c; rw [show ((0 : Int32)).toInt = 0 from rfl] at this; omega, by omega⟩) (fun r3 _ => Sf.c (sX1_bendCount isP_5 h_M) (fun r6 _ => Sf.c sX1_deductionOfBend (fun r9 h9 => ?_))))
  have a1 := (mg_i r6).mul h9 (K := 1134) (by decide) (by decide) (by decide)
  have a2 := ((mg_i r3).up (K' := 1134) (by decide)).sub a1 (K' := 1136) (by decide) (by decide)
  exact Sf.k (n64_of a1 (by decide)) (Sf.k (n64_of a2 (by decide)) (Sf.ok trivial))
theorem sX6_linePlace {x1 : Int32} (h_M : OKb (fT s) M) : Sf (mX6_linePlace 0 x1 M) (pX (fT s) rT [1]) := by
  unfold mX6_linePlace
  refine Sf.x (sX6_requireBend h_M) (fun M3 _ p => ?_) (fun M e h => ⟨h.1, h.2⟩)
  have h_M3 : OKb (fT s) M3 := p.1
  have ph : ((0 : Int) ≤ (x1).toInt ∧ (x1).toInt ≤ 7) := p.2
  have n1 : ((1 : Int32)).toInt = 1 := rfl
  have e := i_add (a := x1) (b := 1) (by omega) (by omega)
  have a0 := (mg_i x1).add (mg_half.up (K' := 1056) (by decide)) (K' := 1058) (by decide) (by decide)
  refine Sf.c (sX1_sumOfLegs isP_5 h_M3 ⟨by omega, by omega⟩) (fun r6 _ => Sf.k (n64_of a0 (by decide)) (Sf.c sX1_deductionOfBend (fun r10 h10 => ?_)))
  have a1 := a0.mul h10 (K := 1136) (by decide) (by decide) (by decide)
  have a2 := ((mg_i r6).up (K' := 1136) (by decide)).sub a1 (K' := 1138) (by decide) (by decide)
  exact Sf.k (n64_of a1 (by decide)) (Sf.k (n64_of a2 (by decide)) (Sf.ok ⟨h_M3, trivial⟩))
theorem sX6_springBackFor_b19 {x1 : UInt64} {y0 : Int32} (h_M : OKb (fT s) M) (h1 : Mg 1070 x1) : Sf (mX6_springBackFor_b19 0 x1 y0 M) (pX (fT s) rT [0]) := by
  unfold mX6_springBackFor_b19
  exact Sf.i (fun _ => Sf.ok ⟨h_M, show (0 : Nat) ∈ [0] from by decide⟩) (fun _ => Sf.c (sX1_springBackAt isP_5 h_M h1) (fun _ _ => Sf.ok ⟨h_M, trivial⟩))
theorem sX6_springBackFor {x1 : UInt64} (h_M : OKb (fT s) M) (h1 : Mg 1070 x1) : Sf (mX6_springBackFor 0 x1 M) (pX (fT s) rT [0]) := by
  unfold mX6_springBackFor mX6_springBackFor_b18
  exact Sf.i (fun _ => sX6_springBackFor_b19 h_M h1) (fun _ => Sf.i (fun _ => sX6_springBackFor_b19 h_M h1) (fun _ => sX6_springBackFor_b19 h_M h1))
theorem sL_springBackFor {k1 : Nat} {x1 : UInt64} (h_M : OKb (fT s) M) (h1 : Mg 1070 x1) : Sf (mL_springBackFor 0 k1 x1 M) (pX (fT s) (rI (0) (1)) []) := by
  unfold mL_springBackFor
  refine Sf.t (sX6_springBackFor h_M h1) (fun M3 r2 p => ?_) (fun M3 e4 p => ?_)
  · exact Sf.k (by decide) (Sf.b (fun M7 e => Sf.ok ⟨by rw [e]; exact OKb.pd p.1, show (0 : Int) ≤ ((0 : Int32)).toInt ∧ ((0 : Int32)).toInt ≤ 1 from by decide⟩))
  · have pe : e4 ∈ [0] := p.2
    refine Sf.i (fun _ => Sf.ok ⟨p.1, show (0 : Int) ≤ ((1 : Int32)).toInt ∧ ((1 : Int32)).toInt ≤ 1 from by decide⟩) (fun c => ?_)
    simp only [List.mem_cons, List.not_mem_nil, or_false] at pe
    exact absurd pe c
theorem sL_linePlace {k1 : Nat} {x1 : Int32} (h_M : OKb (fT s) M) : Sf (mL_linePlace 0 k1 x1 M) (pX (fT s) (rI (0) (1)) []) := by
  unfold mL_linePlace
  refine Sf.t (sX6_linePlace h_M) (fun M3 r2 p => ?_) (fun M3 e4 p => ?_)
  · exact Sf.k (by decide) (Sf.b (fun M7 e => Sf.ok ⟨by rw [e]; exact OKb.pd p.1, show (0 : Int) ≤ ((0 : Int32)).toInt ∧ ((0 : Int32)).toInt ≤ 1 from by decide⟩))
  · have pe : e4 ∈ [1] := p.2
    refine Sf.i (fun _ => Sf.ok ⟨p.1, show (0 : Int) ≤ ((1 : Int32)).toInt ∧ ((1 : Int32)).toInt ≤ 1 from by decide⟩) (fun c => ?_)
    simp only [List.mem_cons, List.not_mem_nil, or_false] at pe
    exact absurd pe c
end D6
end
/-! part 56c.sb -/
section
/-! the StringBuilder: write, written -/
abbrev sW (s : Nat → Int × Int) : Nat → Int × Int := fun i => if i = 0 then (0, 2) else if i = 2 then (0, 70) else s i
def SBi (s : Nat → Int × Int) (M : Mem) : Prop := OKb (fT (sW s)) M ∧ (rd M 133 3).toInt ≤ (sbn (rd M 133 0) : Int)
section SBS
variable {s : Nat → Int × Int} {f : Bx} {M : Mem} {x1 : Int32}
theorem sb_lvl (h : OKb (fT (sW s)) M) : rd M 133 0 = 0 ∨ rd M 133 0 = 1 ∨ rd M 133 0 = 2 := by
  have b : (0 : Int) ≤ (rd M 133 0).toInt ∧ (rd M 133 0).toInt ≤ 2 := h 133 0
  have h3 : (rd M 133 0).toInt = 0 ∨ (rd M 133 0).toInt = 1 ∨ (rd M 133 0).toInt = 2 := by omega
  exact h3.imp (fun e => i_eq.mpr e) (Or.imp (fun e => i_eq.mpr e) (fun e => i_eq.mpr e))
theorem sb_c0 (h : OKb (fT (sW s)) M) : rd M 133 1 = 0 := by
  have b : (0 : Int) ≤ (rd M 133 1).toInt ∧ (rd M 133 1).toInt ≤ 0 := h 133 1
  exact i_eq.mpr (by rw [show ((0 : Int32)).toInt = 0 from rfl]; omega)
theorem sb_n (h : OKb (fT (sW s)) M) : (0 : Int) ≤ (rd M 133 3).toInt ∧ (rd M 133 3).toInt ≤ 70 := h 133 3
theorem sh_l (x : Int32) : x <<< ((0 : Int32) &&& 31) = x := by rw [show ((0 : Int32) &&& 31) = 0 from by decide]; exact Int32.shiftLeft_zero
theorem sh_r (x : Int32) : x >>> ((0 : Int32) &&& 31) = x := by rw [show ((0 : Int32) &&& 31) = 0 from by decide]; exact Int32.shiftRight_zero
theorem okb_zr {k : Nat} (h : OKb f M) (hb : ∀ j, (bxc f k j).1 ≤ 0 ∧ 0 ≤ (bxc f k j).2) : OKb f (zr M k) := by
  intro k' j'
  by_cases e : k' = k
  · subst e
    have e1 : rd (zr M k') k' j' = 0 := by
      show (if k' = k' then fun _ => (0 : Int32) else M.1 k') j' = 0
      rw [if_pos rfl]
    rw [e1]; exact hb j'
  · have e1 : rd (zr M k) k' j' = rd M k' j' := by
      show (if k' = k then fun _ => (0 : Int32) else M.1 k') j' = M.1 k' j'
      rw [if_neg e]
    rw [e1]; exact h k' j'
theorem newCap {v : Int32} {n : Int} (hl : rd M 133 0 = v) (hc : rd M 133 1 = 0) (hN : (Int32.ofNat (sbn v)).toInt = n) (hn : 0 < n ∧ n < 1000) (h1 : n < x1.toInt ∧ x1.toInt ≤ 2 * n + 2) : Sf (mJ5_newCapacity_0f7a4 x1 M) (fun r => r.toInt = 2 * n + 2) := by
  unfold mJ5_newCapacity_0f7a4
  rw [hl, hc]
  refine Sf.b (fun x2 e2 => Sf.b (fun x3 e3 => Sf.b (fun x4 e4 => ?_)))
  rw [sh_l] at e3
  have t2 : x2.toInt = n := by rw [e2]; exact hN
  have t4 : x4.toInt = x1.toInt - n := by rw [e4, e3, i_sub (by omega) (by omega), t2]
  have n2 : ((2 : Int32)).toInt = 2 := rfl
  refine Sf.c (Q := fun r => r.toInt = 2 * n + 2) ?_ (fun r6 h6 => ?_)
  · unfold mJ8_newLength_cabcc
    refine Sf.b (fun x5 e5 => ?_)
    rw [sh_l] at e5
    have t5 : (x2 + 2).toInt = n + 2 := by rw [i_add (by omega) (by omega), t2, n2]
    have em := i_max (a := x4) (b := x2 + 2)
    have e5' : x5.toInt = 2 * n + 2 := by rw [e5, i_add (by omega) (by omega)]; omega
    refine Sf.i (fun c => ?_) (fun _ => Sf.i (fun c => ?_) (fun _ => Sf.ok e5'))
    · have c := i_le.mp c
      rw [show ((0 : Int32)).toInt = 0 from rfl] at c
      exfalso; omega
    · have c := i_lt.mp c
      rw [show ((2147483639 : Int32)).toInt = 2147483639 from rfl] at c
      exfalso; omega
  · refine Sf.i (fun c => ?_) (fun _ => Sf.ok ?_)
    · have c := congrArg Int32.toInt c
      rw [show ((2147483647 : Int32)).toInt = 2147483647 from rfl] at c
      exfalso; omega
    · rw [sh_r]; exact h6
theorem fit_b {k n : Nat} (h : ∀ j, (-128 : Int) ≤ (rd M k j).toInt ∧ (rd M k j).toInt ≤ 127) : fitB (M.1 k) n = true := by
  unfold fitB
  refine List.all_eq_true.mpr (fun j _ => ?_)
  show ((-128 : Int32) ≤ M.1 k j && M.1 k j ≤ 127) = true
  rw [Bool.and_eq_true]
  have h1 := h j
  exact ⟨decide_eq_true (i_le.mpr h1.1), decide_eq_true (i_le.mpr h1.2)⟩
theorem b_154 (j : Nat) : bxc f 154 j = (-128, 127) := rfl
theorem b_155 (j : Nat) : bxc f 155 j = (-128, 127) := rfl
theorem b_134 (j : Nat) : bxc f 134 j = (-128, 127) := rfl
/-- one growth -/
theorem sb_grow {v v' : Int32} {id id' n n' : Nat} (h : OKb (fT (sW s)) M) (hl : rd M 133 0 = v) (hv : v = 0 ∨ v = 1) (hv' : v + 1 = v') (e1 : sbv 133 v = id) (e2 : sbv 133 v' = id') (e3 : sbn v = n) (e4 : sbn v' = n') (hb : ∀ j, bxc (fT (sW s)) id j = (-128, 127)) (hb' : ∀ j, bxc (fT (sW s)) id' j = (-128, 127)) (hid : id ≠ 133 ∧ id' ≠ 133) (hn : (n : Int) < x1.toInt ∧ x1.toInt ≤ n') (hw : n' = 2 * n + 2 ∧ 0 < n ∧ n < 1000) (hvb : 0 ≤ v'.toInt ∧ v'.toInt ≤ 2) (hcnt : (rd M 133 3).toInt ≤ (n : Int)) : Sf (mJ5_ensureCapacityInternal_d00df x1 M) (fun q => SBi s q.1 ∧ x1.toInt ≤ (sbn (rd q.1 133 0) : Int) ∧ rd q.1 133 3 = rd M 133 3) := by
  have hc := sb_c0 h
  have hN : (Int32.ofNat n).toInt = (n : Int) := toInt_of rfl (by omega)
  unfold mJ5_ensureCapacityInternal_d00df
  rw [hl, hc, hv', e1, e2, e3, e4]
  refine Sf.b (fun x2 ex => ?_)
  rw [sh_r] at ex
  have t2 : x2.toInt = (n : Int) := by rw [ex]; exact hN
  refine Sf.i (fun c => ?_) (fun _ => ?_)
  · have c := i_le.mp c
    rw [i_sub (by omega) (by omega), show ((0 : Int32)).toInt = 0 from rfl] at c
    exfalso; omega
  · refine Sf.c (newCap (n := (n : Int)) hl hc (by rw [e3]; exact hN) ⟨by omega, by omega⟩ ⟨by omega, by omega⟩) (fun r6 h6 => Sf.k ?_ (Sf.b (fun M9 e9 => Sf.ok ?_)))
    · rw [sh_l, Bool.and_eq_true, Bool.and_eq_true]
      refine ⟨decide_eq_true hv, decide_eq_true (i_eq.mpr ?_), fit_b (fun j => ?_)⟩
      · rw [h6, show (Int32.ofNat n').toInt = (n' : Int) from toInt_of rfl (by omega)]; omega
      · have := h id j; rw [hb j] at this; exact this
    · have o1 : OKb (fT (sW s)) (zr M id') := okb_zr h (fun j => by rw [hb' j]; decide)
      have o2 : OKb (fT (sW s)) (cpy (zr M id') id id' 0 0 n) := o1.cp (fun j => (hb j).trans (hb' j).symm)
      have o3 : OKb (fT (sW s)) M9 := by rw [e9]; exact o2.put (b := (0, 2)) rfl hvb
      have l9 : rd M9 133 0 = v' := by rw [e9]; exact rd_we
      have c9 : rd M9 133 3 = rd M 133 3 := by
        rw [e9, rd_wj (by decide)]
        have e8 : rd (cpy (zr M id') id id' 0 0 n) 133 3 = rd (zr M id') 133 3 := congrFun (cpy_o (M := zr M id') (a := id) (sp := 0) (dp := 0) (n := n) 133 (fun e => hid.2 e.symm)).1 3
        rw [e8]
        show (if 133 = id' then fun _ => (0 : Int32) else M.1 133) 3 = M.1 133 3
        rw [if_neg (fun e => hid.2 e.symm)]
      refine ⟨⟨o3, ?_⟩, ?_, c9⟩
      · rw [l9, c9, e4]; omega
      · rw [l9, e4]; omega
theorem sb_ens (h : SBi s M) (h1 : 0 ≤ x1.toInt ∧ x1.toInt ≤ 70) (h2 : x1.toInt ≤ (rd M 133 3).toInt + 11) : Sf (mJ5_ensureCapacityInternal_d00df x1 M) (fun q => SBi s q.1 ∧ x1.toInt ≤ (sbn (rd q.1 133 0) : Int) ∧ rd q.1 133 3 = rd M 133 3) := by
  have stay : x1.toInt ≤ (sbn (rd M 133 0) : Int) → Sf (mJ5_ensureCapacityInternal_d00df x1 M) (fun q => SBi s q.1 ∧ x1.toInt ≤ (sbn (rd q.1 133 0) : Int) ∧ rd q.1 133 3 = rd M 133 3) := by
    intro h3
    have hb : sbn (rd M 133 0) ≤ 70 := by unfold sbn; split <;> first | decide | (split <;> decide)
    have hN : (Int32.ofNat (sbn (rd M 133 0))).toInt = (sbn (rd M 133 0) : Int) := toInt_of rfl (by omega)
    unfold mJ5_ensureCapacityInternal_d00df
    refine Sf.b (fun x2 ex => Sf.i (fun _ => Sf.ok ⟨h, h3, rfl⟩) (fun c => ?_))
    rw [sb_c0 h.1, sh_r] at ex
    have t2 : x2.toInt = (sbn (rd M 133 0) : Int) := by rw [ex]; exact hN
    have c := i_nle c
    rw [i_sub (by omega) (by omega), show ((0 : Int32)).toInt = 0 from rfl] at c
    exfalso; omega
  have hc := sb_n h.1
  have h5 := h.2
  rcases sb_lvl h.1 with e | e | e
  · rw [e] at h5 stay
    have s0 : sbn 0 = 16 := rfl
    rw [s0] at h5 stay
    by_cases c : x1.toInt ≤ 16
    · exact stay c
    · exact sb_grow (v := 0) (v' := 1) (id := 134) (id' := 154) (n := 16) (n' := 34) h.1 e (Or.inl rfl) rfl rfl rfl rfl rfl b_134 b_154 ⟨by decide, by decide⟩ ⟨by omega, by omega⟩ ⟨by decide, by decide, by decide⟩ ⟨by decide, by decide⟩ (by omega)
  · rw [e] at h5 stay
    have s0 : sbn 1 = 34 := rfl
    rw [s0] at h5 stay
    by_cases c : x1.toInt ≤ 34
    · exact stay c
    · exact sb_grow (v := 1) (v' := 2) (id := 154) (id' := 155) (n := 34) (n' := 70) h.1 e (Or.inr rfl) rfl rfl rfl rfl rfl b_154 b_155 ⟨by decide, by decide⟩ ⟨by omega, by omega⟩ ⟨by decide, by decide, by decide⟩ ⟨by decide, by decide⟩ (by omega)
  · rw [e] at stay
    exact stay (by show x1.toInt ≤ ((70 : Nat) : Int); omega)
theorem okb_wk {k j : Nat} {v : Int32} (h : OKb f M) (hb : ∀ j, bxc f k j = (-128, 127)) (hv : -128 ≤ v.toInt ∧ v.toInt ≤ 127) : OKb f (wr M k j v) := h.put (hb j) hv
theorem sbv_b {v : Int32} : ∀ j, bxc f (sbv 133 v) j = (-128, 127) := by
  unfold sbv
  split
  · exact b_134
  · split
    · exact b_154
    · exact b_155
theorem sbv_ne {v : Int32} : 133 ≠ sbv 133 v := by
  unfold sbv
  split
  · decide
  · split <;> decide
theorem sb_lat (h : OKb (fT (sW s)) M) : mJ5_isLatin1_aae02 M = some 1 := by
  unfold mJ5_isLatin1_aae02 ite2
  rw [if_neg (by decide), if_pos (sb_c0 h)]
theorem sb_set3 {v : Int32} (h : OKb (fT (sW s)) M) (hv : 0 ≤ v.toInt ∧ v.toInt ≤ 70) : OKb (fT (sW s)) (wr M 133 3 v) := h.put (b := (0, 70)) rfl hv
/-- a character behind the others -/
theorem sb_appC (h : SBi s M) (hx : x1.toInt ≤ 255) (hc : (rd M 133 3).toInt + 1 ≤ 70) : Sf (mJ5_append_3fe6f x1 M) (fun q => SBi s q.1 ∧ (rd q.1 133 3).toInt = (rd M 133 3).toInt + 1) := by
  unfold mJ5_append_3fe6f
  have n1 : ((1 : Int32)).toInt = 1 := rfl
  have b := sb_n h.1
  have e1 := i_add (a := rd M 133 3) (b := 1) (by omega) (by omega)
  refine Sf.m (sb_ens (x1 := rd M 133 3 + 1) h (by omega) (by omega)) (fun M3 _ p => ?_)
  obtain ⟨h3, hcap, hn⟩ := p
  have hcap : (rd M 133 3 + 1).toInt ≤ (sbn (rd M3 133 0) : Int) := hcap
  have hn : rd M3 133 3 = rd M 133 3 := hn
  have h3 : SBi s M3 := h3
  rw [sb_lat h3.1]
  refine Sf.c (Q := fun r => r = 1) ⟨1, rfl, rfl⟩ (fun r er => ?_)
  subst er
  refine Sf.i (fun c => absurd c (by decide)) (fun _ => ?_)
  have hcan : mJ1_canEncode_fc78d x1 M3 = some 1 := by
    unfold mJ1_canEncode_fc78d ite2
    rw [if_neg (fun c => by have := i_lt.mp c; rw [show ((255 : Int32)).toInt = 255 from rfl] at this; omega)]
  rw [hcan]
  refine Sf.c (Q := fun r => r = 1) ⟨1, rfl, rfl⟩ (fun r er => ?_)
  subst er
  refine Sf.i (fun c => absurd c (by decide)) (fun _ => Sf.b (fun M21 e21 => ?_))
  have h21 : OKb (fT (sW s)) M21 := by rw [e21]; exact sb_set3 h3.1 (by rw [hn]; omega)
  refine Sf.k (ok_in (by rw [hn]; omega) (by rw [hn]; omega)) (Sf.b (fun M25 e25 => ?_))
  have h25 : OKb (fT (sW s)) M25 := by rw [e25]; exact okb_wk h21 sbv_b nar_byte
  have l25 : rd M25 133 0 = rd M3 133 0 := by rw [e25, rd_wk sbv_ne, e21, rd_wj (by decide)]
  have c25 : rd M25 133 3 = rd M3 133 3 + 1 := by rw [e25, rd_wk sbv_ne, e21, rd_we]
  refine Sf.k (decide_eq_true l25) (Sf.ok ⟨⟨h25, ?_⟩, ?_⟩)
  · rw [c25, l25, hn]; exact hcap
  · show (rd M25 133 3).toInt = _
    rw [c25, hn, e1, n1]
theorem sb_appC4 (h : SBi s M) (hx : x1.toInt ≤ 255) (hc : (rd M 133 3).toInt + 1 ≤ 70) : Sf (mJ4_append_cf468 x1 M) (fun q => SBi s q.1 ∧ (rd q.1 133 3).toInt = (rd M 133 3).toInt + 1) := by
  unfold mJ4_append_cf468
  exact Sf.m (sb_appC h hx hc) (fun M3 _ p => Sf.ok p)
/-! numbers -/
theorem sz_b {n : Nat} {x0 d p i : Int32} (r : Int32 → Prop) (hi : i.toInt < 10) (h1 : p.toInt < x0.toInt → r (i + d)) (h2 : x0.toInt ≤ p.toInt → ∀ p' i', p' = 10 * p → i' = i + 1 → Sf (mJ6_stringSize_0f7a4_l16 M n x0 d p' i') r) : Sf (mJ6_stringSize_0f7a4_l16 M (n + 1) x0 d p i) r := by
  show Sf (mJ6_stringSize_0f7a4_b16 M (mJ6_stringSize_0f7a4_l16 M n) x0 d p i) r
  unfold mJ6_stringSize_0f7a4_b16
  refine Sf.i (fun c => ?_) (fun _ => Sf.i (fun c => Sf.b (fun p' ep => Sf.b (fun i' ei => h2 (i_le.mp c) p' i' ep ei))) (fun c => Sf.ok (h1 (i_nle c))))
  have c := i_le.mp c
  rw [show ((10 : Int32)).toInt = 10 from rfl] at c
  exfalso; omega
/-- what a number's size tells -/
def szP (x : Int32) (r : Int32) : Prop := (r.toInt = 1 ∧ x.toInt ≤ 9) ∨ (r.toInt = 2 ∧ x.toInt ≤ 99) ∨ (r.toInt = 3 ∧ x.toInt ≤ 999) ∨ r.toInt = 4
theorem sb_size (hx : 0 ≤ x1.toInt ∧ x1.toInt ≤ 9999) : Sf (mJ6_stringSize_0f7a4 x1 M) (szP x1) := by
  unfold mJ6_stringSize_0f7a4
  refine Sf.i (fun c => ?_) (fun _ => Sf.b (fun y ey => ?_))
  · have c := i_lt.mp c
    rw [show ((0 : Int32)).toInt = 0 from rfl] at c
    exfalso; omega
  · have ty : y.toInt = -x1.toInt := by rw [ey]; exact i_neg (by omega)
    unfold mJ6_stringSize_0f7a4_b11
    refine sz_b _ (by decide) (fun h => Or.inl ⟨by decide, ?_⟩) (fun h p2 i2 ep2 ei2 => ?_)
    · rw [show ((-10 : Int32)).toInt = -10 from rfl] at h; omega
    · subst ep2; subst ei2
      refine sz_b _ (by decide) (fun h => Or.inr (Or.inl ⟨by decide, ?_⟩)) (fun h p2 i2 ep2 ei2 => ?_)
      · rw [show ((10 * (-10) : Int32)).toInt = -100 from by decide] at h; omega
      · subst ep2; subst ei2
        refine sz_b _ (by decide) (fun h => Or.inr (Or.inr (Or.inl ⟨by decide, ?_⟩))) (fun h p2 i2 ep2 ei2 => ?_)
        · rw [show ((10 * (10 * (-10)) : Int32)).toInt = -1000 from by decide] at h; omega
        · subst ep2; subst ei2
          refine sz_b _ (by decide) (fun h => Or.inr (Or.inr (Or.inr (by decide)))) (fun h p2 i2 ep2 ei2 => ?_)
          rw [show ((10 * (10 * (10 * (-10))) : Int32)).toInt = -10000 from by decide] at h
          exfalso; omega
theorem tdiv_neg {a : Int} (h : a ≤ 0) : a.tdiv 100 = -((-a) / 100) := by
  have e : a = -(-a) := by omega
  rw [e, Int.neg_tdiv, Int.tdiv_eq_ediv_of_nonneg (by omega)]
  congr 2
  omega
/-- the digits of a number below 100 -/
theorem gc_last {k0 n0 : Nat} {ih : Int32 → Int32 → Int32 → Mem → Option (Mem × Int32)} {x0 x5 : Int32} (h : OKb f M) (hk : ∀ j, bxc f k0 j = (-128, 127)) (hk2 : k0 ≠ 133) (hx : -99 ≤ x0.toInt ∧ x0.toInt ≤ 0) (h5 : 1 ≤ x5.toInt ∧ x5.toInt ≤ n0) (h6 : x0.toInt < -9 → 2 ≤ x5.toInt) (hn : n0 ≤ 1000) : Sf (mJ6_getChars_ba4f3_b22 k0 n0 ih x0 x5 0 M) (fun q => OKb f q.1 ∧ ∀ j, rd q.1 133 j = rd M 133 j) := by
  unfold mJ6_getChars_ba4f3_b22
  have n1 : ((-1 : Int32)).toInt = -1 := rfl
  have hx0 : (-x0).toInt = -x0.toInt := i_neg (by omega)
  have last : ∀ (y : Int32) (M' : Mem), OKb f M' → (∀ j, rd M' 133 j = rd M 133 j) → Sf (mJ6_getChars_ba4f3_b104 k0 n0 y 0 M') (fun q => OKb f q.1 ∧ ∀ j, rd q.1 133 j = rd M 133 j) := by
    intro y M' h' e'
    unfold mJ6_getChars_ba4f3_b104
    exact Sf.i (fun _ => Sf.ok ⟨h', e'⟩) (fun c => absurd rfl c)
  refine Sf.i (fun c => Sf.b (fun y ey => ?_)) (fun c => ?_)
  · have ty : y.toInt = x5.toInt - 1 := by rw [ey, i_add (by omega) (by omega), n1]; omega
    refine Sf.k (ok_in (by omega) (by omega)) (Sf.k (ok_in (by omega) (by omega)) (Sf.b (fun M8 e8 => ?_)))
    have h8 : OKb f M8 := by rw [e8]; exact okb_wk h hk nar_byte
    have f8 : ∀ j, rd M8 133 j = rd M 133 j := fun j => by rw [e8]; exact rd_wk (fun e => hk2 e.symm)
    refine Sf.i (fun _ => last y M8 h8 f8) (fun c9 => Sf.b (fun y2 ey2 => ?_))
    have c9 := i_nle c9
    rw [show ((-9 : Int32)).toInt = -9 from rfl] at c9
    have := h6 c9
    have ty2 : y2.toInt = x5.toInt - 2 := by rw [ey2, i_add (by omega) (by omega), n1]; omega
    refine Sf.k (ok_in (by omega) (by omega)) (Sf.k (ok_in (by omega) (by omega)) (Sf.b (fun M19 e19 => ?_)))
    refine last y2 M19 (by rw [e19]; exact okb_wk h8 hk nar_byte) (fun j => ?_)
    rw [e19, rd_wk (fun e => hk2 e.symm)]; exact f8 j
  · have c := i_nlt c
    rw [show ((-100 : Int32)).toInt = -100 from rfl] at c
    exfalso; omega
theorem sb_chars {k0 n0 : Nat} {x5 : Int32} (h : OKb f M) (hk : ∀ j, bxc f k0 j = (-128, 127)) (hk2 : k0 ≠ 133) (hx : 0 ≤ x1.toInt ∧ x1.toInt ≤ 9999) (hn : n0 ≤ 1000) (h5 : x5.toInt ≤ n0) {r : Int32} (hr : szP x1 r) (h6 : r.toInt ≤ x5.toInt) : Sf (mJ6_getChars_ba4f3 k0 n0 x1 x5 M) (fun q => OKb f q.1 ∧ ∀ j, rd q.1 133 j = rd M 133 j) := by
  unfold mJ6_getChars_ba4f3
  have n1 : ((-1 : Int32)).toInt = -1 := rfl
  have n100 : ((100 : Int32)).toInt = 100 := rfl
  have hr1 : 1 ≤ r.toInt := by rcases hr with h | h | h | h <;> omega
  have hr2 : 10 ≤ x1.toInt → 2 ≤ r.toInt := by rcases hr with h | h | h | h <;> omega
  have hr3 : 100 ≤ x1.toInt → 3 ≤ r.toInt := by rcases hr with h | h | h | h <;> omega
  have hr4 : 1000 ≤ x1.toInt → 4 ≤ r.toInt := by rcases hr with h | h | h | h <;> omega
  refine Sf.i (fun _ => ?_) (fun c => ?_)
  · unfold mJ6_getChars_ba4f3_b12
    refine Sf.i (fun _ => Sf.b (fun x0 ex => ?_)) (fun c => absurd rfl c)
    have tx : x0.toInt = -x1.toInt := by rw [ex]; exact i_neg (by omega)
    show Sf (mJ6_getChars_ba4f3_b22 k0 n0 (mJ6_getChars_ba4f3_l22 k0 n0 4999) x0 x5 0 M) _
    by_cases c : x1.toInt ≤ 99
    · exact gc_last h hk hk2 (by omega) ⟨by omega, h5⟩ (fun _ => by have := hr2 (by omega); omega) hn
    · have r3 := hr3 (by omega)
      unfold mJ6_getChars_ba4f3_b22
      refine Sf.i (fun c => ?_) (fun _ => Sf.b (fun q eq => Sf.b (fun d ed => Sf.b (fun y ey => ?_))))
      · have c := i_lt.mp c
        rw [show ((-100 : Int32)).toInt = -100 from rfl] at c
        exfalso; omega
      · have tq : q.toInt = -(x1.toInt / 100) := by
          rw [eq, Int32.toInt_div_of_ne_right _ _ (by decide), n100, tdiv_neg (by omega), tx]
          congr 2; omega
        have td : d.toInt = x1.toInt - 100 * (x1.toInt / 100) := by
          have e1 : (q * 100).toInt = q.toInt * 100 := i_mulr n100 (by omega) (by omega)
          rw [ed, i_sub (by omega) (by omega), e1]; omega
        have ty : y.toInt = x5.toInt - 1 := by rw [ey, i_add (by omega) (by omega), n1]; omega
        refine Sf.k (ok_in (by omega) (by omega)) (Sf.k (ok_in (by omega) (by omega)) (Sf.b (fun M8 e8 => Sf.b (fun y2 ey2 => ?_))))
        have h8 : OKb f M8 := by rw [e8]; exact okb_wk h hk nar_byte
        have f8 : ∀ j, rd M8 133 j = rd M 133 j := fun j => by rw [e8]; exact rd_wk (fun e => hk2 e.symm)
        have ty2 : y2.toInt = x5.toInt - 2 := by rw [ey2, i_add (by omega) (by omega), n1]; omega
        refine Sf.k (ok_in (by omega) (by omega)) (Sf.k (ok_in (by omega) (by omega)) (Sf.b (fun M9 e9 => ?_)))
        have h9 : OKb f M9 := by rw [e9]; exact okb_wk h8 hk nar_byte
        have f9 : ∀ j, rd M9 133 j = rd M 133 j := fun j => by rw [e9, rd_wk (fun e => hk2 e.symm)]; exact f8 j
        show Sf (mJ6_getChars_ba4f3_b22 k0 n0 (mJ6_getChars_ba4f3_l22 k0 n0 4998) q y2 0 M9) _
        refine Sf.mono (gc_last h9 hk hk2 (by omega) ⟨by omega, by omega⟩ (fun _ => by have := hr4 (by omega); omega) hn) (fun z hz => ⟨hz.1, fun j => (hz.2 j).trans (f9 j)⟩)
  · exfalso
    have := mt i_le.mpr c
    rw [show ((0 : Int32)).toInt = 0 from rfl] at this
    omega
theorem sb_appI (h : SBi s M) (hx : 0 ≤ x1.toInt ∧ x1.toInt ≤ 9999) (hc : (rd M 133 3).toInt + 4 ≤ 70) : Sf (mJ4_append_bf812 x1 M) (fun q => SBi s q.1 ∧ (rd q.1 133 3).toInt ≤ (rd M 133 3).toInt + 4) := by
  unfold mJ4_append_bf812
  refine Sf.m (Q := fun q => SBi s q.1 ∧ (rd q.1 133 3).toInt ≤ (rd M 133 3).toInt + 4) ?_ (fun M3 _ p => Sf.ok p)
  unfold mJ5_append_c97b9
  have b := sb_n h.1
  refine Sf.b (fun c0 ec => Sf.c (sb_size hx) (fun r hr => Sf.b (fun x3 e3 => ?_)))
  subst ec
  have hr1 : 1 ≤ r.toInt ∧ r.toInt ≤ 4 := by rcases hr with h | h | h | h <;> omega
  have t3 : x3.toInt = (rd M 133 3).toInt + r.toInt := by rw [e3]; exact i_add (by omega) (by omega)
  refine Sf.m (sb_ens (x1 := x3) h (by omega) (by omega)) (fun M8 _ p => ?_)
  obtain ⟨h8, hcap, hn⟩ := p
  have h8 : SBi s M8 := h8
  have hcap : x3.toInt ≤ (sbn (rd M8 133 0) : Int) := hcap
  rw [sb_lat h8.1]
  refine Sf.c (Q := fun r => r = 1) ⟨1, rfl, rfl⟩ (fun r2 er => ?_)
  subst er
  have hb70 : sbn (rd M8 133 0) ≤ 1000 := by unfold sbn; split <;> first | decide | (split <;> decide)
  refine Sf.i (fun c => absurd c (by decide)) (fun _ => Sf.m (sb_chars h8.1 sbv_b (fun e => sbv_ne e.symm) hx hb70 hcap hr (by omega)) (fun M17 _ p17 => Sf.b (fun M18 e18 => ?_)))
  have h17 : OKb (fT (sW s)) M17 := p17.1
  have f17 : ∀ j, rd M17 133 j = rd M8 133 j := p17.2
  have l18 : rd M18 133 0 = rd M8 133 0 := by rw [e18, rd_wj (by decide)]; exact f17 0
  have c18 : rd M18 133 3 = x3 := by rw [e18]; exact rd_we
  refine Sf.k (decide_eq_true l18) (Sf.ok ⟨⟨by rw [e18]; exact sb_set3 h17 (by omega), ?_⟩, ?_⟩)
  · rw [c18, l18]; exact hcap
  · show (rd M18 133 3).toInt ≤ _
    rw [c18]; omega
theorem sb_appS (h : SBi s M) (hc : (rd M 133 3).toInt + 6 ≤ 70) : Sf (mJ4_append_15ec4 11 M) (fun q => SBi s q.1 ∧ (rd q.1 133 3).toInt ≤ (rd M 133 3).toInt + 6) := by
  unfold mJ4_append_15ec4
  refine Sf.m (Q := fun q => SBi s q.1 ∧ (rd q.1 133 3).toInt ≤ (rd M 133 3).toInt + 6) ?_ (fun M3 _ p => Sf.ok p)
  unfold mJ5_append_cf1ce
  have b := sb_n h.1
  have n6 : ((6 : Int32)).toInt = 6 := rfl
  rw [sJ0_length (by decide), show (some (Int32.ofNat (stLen 11)) : Option Int32) = some 6 from by decide +kernel]
  refine Sf.c (Q := fun r => r = 6) ⟨6, rfl, rfl⟩ (fun r er => ?_)
  subst er
  have t6 := i_add (a := rd M 133 3) (b := 6) (by omega) (by omega)
  refine Sf.m (sb_ens (x1 := rd M 133 3 + 6) h (by omega) (by omega)) (fun M6 _ p => ?_)
  obtain ⟨h6, hcap, hn⟩ := p
  have h6 : SBi s M6 := h6
  have hn : rd M6 133 3 = rd M 133 3 := hn
  have hcap : (rd M 133 3 + 6).toInt ≤ (sbn (rd M6 133 0) : Int) := hcap
  refine Sf.m (Q := fun q => OKb (fT (sW s)) q.1 ∧ ∀ j, rd q.1 133 j = rd M6 133 j) ?_ (fun M9 _ p9 => Sf.b (fun M10 e10 => ?_))
  · unfold mJ5_putStringAt_47b60
    have hinf : mJ5_inflateIfNeededFor_a7421 11 M6 = some () := by
      unfold mJ5_inflateIfNeededFor_a7421 ite2
      rw [if_neg (by decide), show mJ0_coder_7d493 11 M6 = some 0 from rfl]
      show (if rd M6 133 1 = 0 then some () else none) = some ()
      rw [if_pos (sb_c0 h6.1)]
    rw [hinf]
    refine Sf.c (Q := fun _ => True) ⟨(), rfl, trivial⟩ (fun _ _ => ?_)
    refine Sf.m (Q := fun q => OKb (fT (sW s)) q.1 ∧ ∀ j, rd q.1 133 j = rd M6 133 j) ?_ (fun M7 _ p7 => Sf.ok p7)
    unfold mJ0_getBytes_840e7
    rw [show mJ0_coder_7d493 11 M6 = some 0 from rfl, sb_c0 h6.1]
    refine Sf.c (Q := fun r => r = 0) ⟨0, rfl, rfl⟩ (fun r er => ?_)
    subst er
    refine Sf.i (fun _ => ?_) (fun c => absurd rfl c)
    rw [sh_l]
    have sl : stLen 11 = 6 := by decide +kernel
    refine Sf.k ?_ (Sf.b (fun M5 e5 => Sf.ok ⟨?_, fun j => ?_⟩))
    · rw [Bool.and_eq_true]
      refine ⟨?_, decide_eq_true ?_⟩
      · rw [decide_eq_false (fun c => ?_)]
        · rfl
        · have c := i_lt.mp c
          rw [show ((0 : Int32)).toInt = 0 from rfl, hn] at c
          omega
      · rw [sl, i_clamp, hn]; omega
    · rw [e5]
      intro k j
      have hh := h6.1 k j
      by_cases e : k = sbv 133 (rd M6 133 0)
      · have hb := sbv_b (f := fT (sW s)) (v := rd M6 133 0) j
        rw [← e] at hb
        rw [hb] at hh ⊢
        show (-128 : Int) ≤ ((if k = sbv 133 (rd M6 133 0) then va_cpy (stF 11) (M6.1 (sbv 133 (rd M6 133 0))) 0 (rd M6 133 3).toNatClampNeg (stLen 11) else M6.1 k) j).toInt ∧ ((if k = sbv 133 (rd M6 133 0) then va_cpy (stF 11) (M6.1 (sbv 133 (rd M6 133 0))) 0 (rd M6 133 3).toNatClampNeg (stLen 11) else M6.1 k) j).toInt ≤ 127
        rw [if_pos e]
        unfold va_cpy
        split
        · rename_i cj
          have key : ∀ i, i < 6 → (-128 : Int) ≤ (stF 11 i).toInt ∧ (stF 11 i).toInt ≤ 127 := by decide +kernel
          exact key _ (by rw [sl] at cj; omega)
        · rw [← e]; exact hh
      · have e1 : rd (cpS M6 11 (sbv 133 (rd M6 133 0)) (rd M6 133 3).toNatClampNeg) k j = rd M6 k j := by
          show (if k = sbv 133 (rd M6 133 0) then va_cpy (stF 11) (M6.1 (sbv 133 (rd M6 133 0))) 0 (rd M6 133 3).toNatClampNeg (stLen 11) else M6.1 k) j = M6.1 k j
          rw [if_neg e]
        rw [e1]; exact hh
    · show rd M5 133 j = rd M6 133 j
      rw [e5]
      show (if 133 = sbv 133 (rd M6 133 0) then va_cpy (stF 11) (M6.1 (sbv 133 (rd M6 133 0))) 0 (rd M6 133 3).toNatClampNeg (stLen 11) else M6.1 133) j = M6.1 133 j
      rw [if_neg sbv_ne]
  · have h9 : OKb (fT (sW s)) M9 := p9.1
    have f9 : ∀ j, rd M9 133 j = rd M6 133 j := p9.2
    have l10 : rd M10 133 0 = rd M6 133 0 := by rw [e10, rd_wj (by decide)]; exact f9 0
    have c10 : rd M10 133 3 = rd M 133 3 + 6 := by rw [e10, rd_we, f9 3, hn]
    refine Sf.k (decide_eq_true l10) (Sf.ok ⟨⟨by rw [e10]; exact sb_set3 h9 (by rw [f9 3, hn]; omega), ?_⟩, ?_⟩)
    · rw [c10, l10]; exact hcap
    · show (rd M10 133 3).toInt ≤ _
      rw [c10]; omega
end SBS
end
/-! part 56d.io -/
section
/-! write, written, feed, load -/
theorem OKb.sub {b : Bool} {g : Nat → Int × Int} {s s' : Nat → Int × Int} {M : Mem} (h : OKb (b, g, s) M) (hs : ∀ i, (s' i).1 ≤ (s i).1 ∧ (s i).2 ≤ (s' i).2) : OKb (b, g, s') M := by
  intro k j
  have hk := h k j
  by_cases e : (k = 0 ∧ j = 1) ∨ (k = 133 ∧ (j = 0 ∨ j = 3))
  · rcases e with ⟨rfl, rfl⟩ | ⟨rfl, rfl | rfl⟩
    · have h1 : (s 1).1 ≤ (rd M 0 1).toInt ∧ (rd M 0 1).toInt ≤ (s 1).2 := hk
      show (s' 1).1 ≤ _ ∧ _ ≤ (s' 1).2
      have := hs 1; omega
    · have h1 : (s 0).1 ≤ (rd M 133 0).toInt ∧ (rd M 133 0).toInt ≤ (s 0).2 := hk
      show (s' 0).1 ≤ _ ∧ _ ≤ (s' 0).2
      have := hs 0; omega
    · have h1 : (s 2).1 ≤ (rd M 133 3).toInt ∧ (rd M 133 3).toInt ≤ (s 2).2 := hk
      show (s' 2).1 ≤ _ ∧ _ ≤ (s' 2).2
      have := hs 2; omega
  · have e2 : bxc (b, g, s') k j = bxc (b, g, s) k j := by
      unfold bxc
      by_cases k0 : k = 0
      · subst k0
        rw [if_pos rfl, if_pos rfl, if_neg (by omega), if_neg (by omega)]
      · by_cases k1 : k = 133
        · subst k1
          have j0 : ¬ j = 0 := by omega
          have j3 : ¬ j = 3 := by omega
          simp only [k0, j0, j3, if_false]
        · simp only [k0, k1, if_false]
    rw [e2]; exact hk
section IO
variable {s : Nat → Int × Int} {M : Mem} {x1 : Int32}
theorem sb_costs_l {f : Bx} (h : OKb f M) : ∀ (n : Nat) (x1 x2 : Int32) (_ : 0 ≤ x2.toInt ∧ x2.toInt ≤ 8) (_ : 0 ≤ x1.toInt ∧ x1.toInt ≤ 297 * x2.toInt) (_ : 8 - x2.toInt < n), Sf (mX1_sumOfCosts_l4 5 M n x1 x2) (pI 0 2376) := by
  intro n
  induction n with
  | zero => intro x1 x2 h2 h1 hmu; exfalso; omega
  | succ n IH =>
    intro x1 x2 h2 h1 hmu
    show Sf (mX1_sumOfCosts_b4 5 M (mX1_sumOfCosts_l4 5 M n) x1 x2) _
    unfold mX1_sumOfCosts_b4
    have n1 : ((1 : Int32)).toInt = 1 := rfl
    refine Sf.i (fun _ => Sf.ok ⟨h1.1, by omega⟩) (fun _ => Sf.i (fun _ => Sf.ok ⟨h1.1, by omega⟩) (fun c => ?_))
    have c := i_nle c
    rw [show ((8 : Int32)).toInt = 8 from rfl] at c
    have b : (0 : Int) ≤ (rd M (5 + 7) x2.toNatClampNeg).toInt ∧ (rd M (5 + 7) x2.toNatClampNeg).toInt ≤ 297 := h.at (bx_P (c := 7) isP_5 (by decide))
    refine Sf.k (ok_in (by omega) (by omega)) (Sf.b (fun y1 e1 => Sf.b (fun y2 e2 => ?_)))
    have t1 : y1.toInt = x1.toInt + (rd M (5 + 7) x2.toNatClampNeg).toInt := by rw [e1]; exact i_add (by omega) (by omega)
    have t2 : y2.toInt = x2.toInt + 1 := by rw [e2]; exact i_add (by omega) (by omega)
    exact IH y1 y2 (by omega) (by omega) (by omega)
theorem sb_costs {f : Bx} (h : OKb f M) : Sf (mX1_sumOfCosts 5 M) (pI 0 2376) := by
  unfold mX1_sumOfCosts
  exact sb_costs_l h 5000 0 0 (by decide) (by decide) (by decide)
theorem sb_bend_b {g : Int32} {y1 : Int32} (h : SBi s M) (hg : rd M 133 0 = g) (hy : y1.toInt ≤ 255) (hc : (rd M 133 3).toInt + 2 ≤ 70) : Sf (mX6_writeBend_b22 0 g x1 y1 M) (fun q => SBi s q.1 ∧ (rd q.1 133 3).toInt ≤ (rd M 133 3).toInt + 2) := by
  unfold mX6_writeBend_b22
  refine Sf.k (decide_eq_true hg) (Sf.m (sb_appC4 h hy (by omega)) (fun M8 _ p => ?_))
  have h8 : SBi s M8 := p.1
  have c8 : (rd M8 133 3).toInt = (rd M 133 3).toInt + 1 := p.2
  refine Sf.i (fun _ => Sf.ok ⟨h8, by show (rd M8 133 3).toInt ≤ _; omega⟩) (fun _ => Sf.m (sb_appC4 h8 (by decide) (by omega)) (fun M12 _ p12 => Sf.ok ⟨p12.1, ?_⟩))
  have c12 : (rd M12 133 3).toInt = (rd M8 133 3).toInt + 1 := p12.2
  show (rd M12 133 3).toInt ≤ _
  omega
theorem sb_bend (h : SBi s M) (hx : 0 ≤ x1.toInt ∧ x1.toInt ≤ 7) (hc : (rd M 133 3).toInt + 2 ≤ 70) : Sf (mX6_writeBend 0 x1 M) (fun q => SBi s q.1 ∧ (rd q.1 133 3).toInt ≤ (rd M 133 3).toInt + 2) := by
  unfold mX6_writeBend
  exact Sf.c (sX1_goesUp isP_5 h.1 ⟨by omega, by omega⟩) (fun r _ => Sf.i (fun _ => sb_bend_b h rfl (by decide) hc) (fun _ => sb_bend_b h rfl (by decide) hc))
theorem sb_b97 {g : Int32} (h : SBi s M) (hg : rd M 133 0 = g) : Sf (mX6_write_b97 0 g M) (fun q => SBi s q.1) := by
  unfold mX6_write_b97
  refine Sf.k (decide_eq_true hg) (Sf.c (Q := fun _ => True) ⟨_, rfl, trivial⟩ (fun r _ => Sf.k (decide_eq_true hg) (Sf.ok h)))
theorem sb_b61 {g : Int32} (h : SBi s M) (hg : rd M 133 0 = g) (hc : (rd M 133 3).toInt ≤ 54) : Sf (mX6_write_b61 0 g M) (fun q => SBi s q.1) := by
  unfold mX6_write_b61
  refine Sf.i (fun _ => sb_b97 h hg) (fun _ => Sf.k (decide_eq_true hg) (Sf.m (sb_appS h (by omega)) (fun M14 _ p => ?_)))
  have h14 : SBi s M14 := p.1
  have c14 : (rd M14 133 3).toInt ≤ (rd M 133 3).toInt + 6 := p.2
  refine Sf.c (sb_costs h14.1) (fun r16 pr => Sf.m (sb_appI h14 ⟨pr.1, by have := pr.2; omega⟩ (by omega)) (fun M20 _ p20 => sb_b97 p20.1 rfl))
theorem sb_loop : ∀ (n : Nat) (x1 : Int32) (M : Mem) (_ : SBi s M) (_ : 0 ≤ x1.toInt ∧ x1.toInt ≤ 9) (_ : (rd M 133 3).toInt ≤ 6 * x1.toInt) (_ : 9 - x1.toInt < n), Sf (mX6_write_l10 0 n (rd M 133 0) x1 M) (fun q => SBi s q.1) := by
  intro n
  induction n with
  | zero => intro x1 M h h1 hc hmu; exfalso; omega
  | succ n IH =>
    intro x1 M h h1 hc hmu
    show Sf (mX6_write_b10 0 (rd M 133 0) (mX6_write_l10 0 n) x1 M) _
    have b38 : ∀ (M : Mem), SBi s M → x1.toInt < 9 → (rd M 133 3).toInt ≤ 6 * x1.toInt + 2 → Sf (mX6_write_b38 0 (rd M 133 0) (mX6_write_l10 0 n) x1 M) (fun q => SBi s q.1) := by
      intro M h h9 hc
      unfold mX6_write_b38
      have n1 : ((1 : Int32)).toInt = 1 := rfl
      have b : (0 : Int) ≤ (rd M (5 + 1) x1.toNatClampNeg).toInt ∧ (rd M (5 + 1) x1.toNatClampNeg).toInt ≤ 9999 := h.1.at (bx_P (c := 1) isP_5 (by decide))
      refine Sf.k (ok_in (by omega) (by omega)) (Sf.k (decide_eq_true rfl) (Sf.m (sb_appI h b (by omega)) (fun M27 _ p => Sf.b (fun y ey => ?_))))
      have c27 : (rd M27 133 3).toInt ≤ (rd M 133 3).toInt + 4 := p.2
      have ty : y.toInt = x1.toInt + 1 := by rw [ey]; exact i_add (by omega) (by omega)
      exact IH y M27 p.1 (by omega) (by omega) (by omega)
    unfold mX6_write_b10
    refine Sf.k (decide_eq_true (by rw [i_clamp]; omega)) (Sf.i (fun _ => sb_b61 h rfl (by omega)) (fun _ => Sf.i (fun _ => sb_b61 h rfl (by omega)) (fun c => ?_)))
    have c := i_nle c
    rw [show ((9 : Int32)).toInt = 9 from rfl] at c
    refine Sf.i (fun _ => b38 M h c (by omega)) (fun c0 => Sf.k (decide_eq_true rfl) ?_)
    have c0 := i_nle c0
    rw [show ((0 : Int32)).toInt = 0 from rfl] at c0
    have n1 : ((1 : Int32)).toInt = 1 := rfl
    have e := i_sub (a := x1) (b := 1) (by omega) (by omega)
    refine Sf.m (sb_bend h (by omega) (by omega)) (fun M32 _ p => b38 M32 p.1 c ?_)
    have c32 : (rd M32 133 3).toInt ≤ (rd M 133 3).toInt + 2 := p.2
    omega
theorem sb_len0 (h : SBi s M) : Sf (mJ4_setLength_d00df (0 : Int32) M) (fun q => SBi s q.1 ∧ (rd q.1 133 3).toInt = 0) := by
  unfold mJ4_setLength_d00df
  refine Sf.m (Q := fun q => SBi s q.1 ∧ (rd q.1 133 3).toInt = 0) ?_ (fun M3 _ p => Sf.ok p)
  unfold mJ5_setLength_d00df
  have b := sb_n h.1
  refine Sf.i (fun _ => Sf.m (sb_ens h (by decide) (by rw [show ((0 : Int32)).toInt = 0 from rfl]; omega)) (fun M4 _ p => ?_)) (fun c => absurd (by decide) c)
  have h4 : SBi s M4 := p.1
  have b4 := sb_n h4.1
  have fin : ∀ M' : Mem, OKb (fT (sW s)) M' → rd M' 133 0 = rd M4 133 0 → rd M' 133 3 = 0 → SBi s M' ∧ (rd M' 133 3).toInt = 0 := by
    intro M' h' _ c'
    exact ⟨⟨h', by rw [c', show ((0 : Int32)).toInt = 0 from rfl]; omega⟩, by rw [c']; rfl⟩
  refine Sf.i (fun _ => Sf.i (fun _ => Sf.b (fun M7 e7 => ?_)) (fun _ => Sf.b (fun M10 e10 => Sf.b (fun M12 e12 => ?_)))) (fun c => ?_)
  · have l7 : rd M7 133 0 = rd M4 133 0 := by rw [e7, rd_wj (by decide)]
    exact Sf.k (decide_eq_true l7) (Sf.ok (fin M7 (by rw [e7]; exact sb_set3 h4.1 (by decide)) l7 (by rw [e7]; exact rd_we)))
  · have o10 : OKb (fT (sW s)) M10 := by rw [e10]; exact h4.1.put (b := (0, 1)) rfl (by decide)
    have l12 : rd M12 133 0 = rd M4 133 0 := by rw [e12, rd_wj (by decide), e10, rd_wj (by decide)]
    exact Sf.k (decide_eq_true l12) (Sf.ok (fin M12 (by rw [e12]; exact sb_set3 o10 (by decide)) l12 (by rw [e12]; exact rd_we)))
  · exfalso
    have := mt i_le.mpr c
    rw [show ((0 : Int32)).toInt = 0 from rfl] at this
    omega
theorem sX6_write (h : SBi s M) : Sf (mX6_write 0 M) (fun q => SBi s q.1) := by
  unfold mX6_write
  refine Sf.m (sb_len0 h) (fun M3 _ p => ?_)
  have c3 : (rd M3 133 3).toInt = 0 := p.2
  exact sb_loop 5000 0 M3 p.1 (by decide) (by rw [c3]; decide) (by decide)
theorem isC_mod (y : UInt32) : isC (y % 65536).toInt32 = true := by
  have h1 : (y % 65536).toNat < 65536 := by rw [UInt32.toNat_mod]; exact Nat.mod_lt _ (by decide)
  have e : (y % 65536).toUInt16.toUInt32 = y % 65536 := by
    apply UInt32.toNat_inj.mp
    rw [UInt16.toNat_toUInt32, UInt32.toNat_toUInt16]
    exact Nat.mod_eq_of_lt h1
  unfold isC
  exact decide_eq_true (congrArg Value.int (congrArg UInt32.toInt32 e))
theorem sX6_written (h : SBi s M) : Sf (mX6_written 0 x1 M) (fun q => q.1 = M ∧ ∀ e, q.2 = Sum.inr e → e = 1) := by
  unfold mX6_written mX6_written_b15
  have b := sb_n h.1
  have th : Sf (some ((M, Sum.inr 1) : Mem × (Int32 ⊕ Nat))) (fun q => q.1 = M ∧ ∀ e, q.2 = Sum.inr e → e = 1) := Sf.ok ⟨rfl, fun e he => (Sum.inr.inj he).symm⟩
  refine Sf.i (fun _ => th) (fun c0 => ?_)
  have c0 := i_nlt c0
  rw [show ((0 : Int32)).toInt = 0 from rfl] at c0
  refine Sf.c (Q := fun r => r = rd M 133 3) ⟨_, rfl, rfl⟩ (fun r er => ?_)
  subst er
  refine Sf.i (fun c => ?_) (fun _ => th)
  have c := i_lt.mp c
  have hb70 : sbn (rd M 133 0) ≤ 70 := by unfold sbn; split <;> first | decide | (split <;> decide)
  have hN : (Int32.ofNat (sbn (rd M 133 0))).toInt = (sbn (rd M 133 0) : Int) := toInt_of rfl (by omega)
  have h2 := h.2
  have hl : Sf (mJ4_charAt_5068e x1 M) (fun _ => True) := by
    unfold mJ4_charAt_5068e
    refine Sf.c (Q := fun r => isC r = true) ?_ (fun r hr => Sf.k hr (Sf.ok trivial))
    unfold mJ5_charAt_5068e
    refine Sf.b (fun x2 e2 => Sf.b (fun x4 e4 => ?_))
    rw [sb_c0 h.1] at e2
    subst e2
    rw [sh_r] at e4
    have t4 : x1.toInt < x4.toInt := by rw [e4, i_min, hN]; omega
    refine Sf.c (Q := fun _ => True) ?_ (fun _ _ => Sf.i (fun _ => Sf.k (ok_in (by omega) (by omega)) (Sf.k (isC_mod _) (Sf.ok (isC_mod _)))) (fun c => absurd rfl c))
    unfold mJ0_checkIndex_df160 mJ3_checkIndex_8e157
    refine Sf.c (Q := fun _ => True) (Sf.i (fun c => ?_) (fun _ => Sf.i (fun _ => Sf.ok trivial) (fun c => absurd (i_lt.mpr t4) c))) (fun _ _ => Sf.ok trivial)
    have c := i_lt.mp c
    rw [show ((0 : Int32)).toInt = 0 from rfl] at c
    exfalso; omega
  have hl2 : Sf (mJ4_charAt_5068e x1 M) (fun r => isC r = true) := by
    obtain ⟨y, hy, _⟩ := hl
    refine ⟨y, hy, ?_⟩
    unfold mJ4_charAt_5068e at hy
    obtain ⟨r, _, h9⟩ := cap_s hy
    obtain ⟨h8, h7⟩ := chk_s h9
    cases h7; exact h8
  exact Sf.c hl2 (fun r hr => Sf.k hr (Sf.ok ⟨rfl, fun e he => by cases he⟩))
theorem sL_written {k1 : Nat} (h : SBi s M) : Sf (mL_written 0 k1 x1 M) (fun q => SBi s q.1 ∧ (∀ k j, rd q.1 k j = rd M k j) ∧ ∃ r, q.2 = Sum.inl r) := by
  unfold mL_written
  refine Sf.t (sX6_written h) (fun M3 r2 p => ?_) (fun M3 e4 p => ?_)
  · have e : M3 = M := p.1
    subst e
    exact Sf.k (by decide) (Sf.b (fun M7 e => Sf.ok ⟨by rw [e]; exact ⟨h.1.pl, h.2⟩, fun k j => by rw [e]; rfl, _, rfl⟩))
  · have e : M3 = M := p.1
    subst e
    exact Sf.i (fun _ => Sf.ok ⟨h, fun _ _ => rfl, _, rfl⟩) (fun c => absurd (p.2 e4 rfl) c)
/-! feed -/
theorem sX6_append_l : ∀ (n : Nat) (x2 : Int32) (M : Mem) (m : Nat) (_ : OKb (fT (sB s)) M) (_ : x2.toInt = 8 * (m : Int) - 8 ∧ m ≤ 4) (_ : (rd M 0 1).toInt + m ≤ 600) (_ : m < n), Sf (mX6_append_l3 0 n x1 x2 M) (fun q => OKb (fT (sB s)) q.1 ∧ (rd q.1 0 1).toInt = (rd M 0 1).toInt + m) := by
  intro n
  induction n with
  | zero => intro x2 M m h h2 hb hmu; exfalso; omega
  | succ n IH =>
    intro x2 M m h h2 hb hmu
    show Sf (mX6_append_b3 0 (mX6_append_l3 0 n) x1 x2 M) _
    unfold mX6_append_b3
    have b : (0 : Int) ≤ (rd M 0 1).toInt ∧ (rd M 0 1).toInt ≤ 600 := h.at rfl
    refine Sf.i (fun c => Sf.ok ⟨h, ?_⟩) (fun c => Sf.i (fun c6 => ?_) (fun _ => ?_))
    · have c := i_lt.mp c
      rw [show ((0 : Int32)).toInt = 0 from rfl] at c
      show (rd M 0 1).toInt = _
      omega
    · have c := i_nlt c
      rw [show ((0 : Int32)).toInt = 0 from rfl] at c
      have c6 := i_le.mp c6
      rw [show ((600 : Int32)).toInt = 600 from rfl] at c6
      exfalso; omega
    · have c := i_nlt c
      rw [show ((0 : Int32)).toInt = 0 from rfl] at c
      refine Sf.k (ok_in (by omega) (by omega)) (Sf.b (fun M6 e6 => Sf.b (fun M7 e7 => ?_)))
      have h6 : OKb (fT (sB s)) M6 := by rw [e6]; exact h.put (b := (-128, 127)) rfl nar_byte
      have f6 : rd M6 0 1 = rd M 0 1 := by rw [e6]; exact rd_wk (by decide)
      have t7 : (rd M6 0 1 + 1).toInt = (rd M 0 1).toInt + 1 := by rw [f6]; exact i_add (by rw [show ((1 : Int32)).toInt = 1 from rfl]; omega) (by rw [show ((1 : Int32)).toInt = 1 from rfl]; omega)
      have h7 : OKb (fT (sB s)) M7 := by rw [e7]; exact h6.put (b := (0, 600)) rfl (by rw [t7]; omega)
      have c7 : (rd M7 0 1).toInt = (rd M 0 1).toInt + 1 := by rw [e7, rd_we, t7]
      unfold mX6_append_b40
      refine Sf.b (fun y ey => ?_)
      have ty : y.toInt = x2.toInt - 8 := by rw [ey, i_add (by rw [show ((-8 : Int32)).toInt = -8 from rfl]; omega) (by rw [show ((-8 : Int32)).toInt = -8 from rfl]; omega)]; rfl
      refine Sf.mono (IH y M7 (m - 1) h7 ⟨by omega, by omega⟩ (by omega) (by omega)) (fun q p => ⟨p.1, ?_⟩)
      have := p.2
      omega
theorem sX6_append_ex (h : OKb (fT (sB s)) M) (hb : (rd M 0 1).toInt + 4 ≤ 600) : Sf (mX6_append 0 x1 M) (fun q => OKb (fT (sB s)) q.1 ∧ (rd q.1 0 1).toInt = (rd M 0 1).toInt + 4) := by
  unfold mX6_append
  exact sX6_append_l 5000 24 M 4 h (by decide) hb (by decide)
theorem sX6_feed_ex {x2 x3 x4 x5 : Int32} (h : OKb (fT (sB s)) M) : Sf (mX6_feed 0 x1 x2 x3 x4 x5 M) (fun q => OKb (fT (sB s)) q.1 ∧ ((600 < (rd M 0 1).toInt + 20 ∧ q.2.toInt = -2 ∧ (rd q.1 0 1).toInt = (rd M 0 1).toInt) ∨ ((rd M 0 1).toInt + 20 ≤ 600 ∧ q.2.toInt = (rd M 0 1).toInt + 20 ∧ (rd q.1 0 1).toInt = (rd M 0 1).toInt + 20))) := by
  unfold mX6_feed
  have b : (0 : Int) ≤ (rd M 0 1).toInt ∧ (rd M 0 1).toInt ≤ 600 := h.at rfl
  have n20 : ((20 : Int32)).toInt = 20 := rfl
  have n600 : ((600 : Int32)).toInt = 600 := rfl
  have e := i_add (a := rd M 0 1) (b := 20) (by omega) (by omega)
  refine Sf.i (fun c => ?_) (fun c => Sf.ok ⟨h, Or.inl ⟨?_, rfl, rfl⟩⟩)
  · have c := i_le.mp c
    refine Sf.m (sX6_append_ex h (by omega)) (fun M4 _ p4 => ?_)
    have c4 : (rd M4 0 1).toInt = (rd M 0 1).toInt + 4 := p4.2
    refine Sf.m (sX6_append_ex p4.1 (by show (rd M4 0 1).toInt + 4 ≤ 600; omega)) (fun M7 _ p7 => ?_)
    have c7 : (rd M7 0 1).toInt = (rd M4 0 1).toInt + 4 := p7.2
    refine Sf.m (sX6_append_ex p7.1 (by show (rd M7 0 1).toInt + 4 ≤ 600; omega)) (fun M10 _ p10 => ?_)
    have c10 : (rd M10 0 1).toInt = (rd M7 0 1).toInt + 4 := p10.2
    refine Sf.m (sX6_append_ex p10.1 (by show (rd M10 0 1).toInt + 4 ≤ 600; omega)) (fun M13 _ p13 => ?_)
    have c13 : (rd M13 0 1).toInt = (rd M10 0 1).toInt + 4 := p13.2
    refine Sf.m (sX6_append_ex p13.1 (by show (rd M13 0 1).toInt + 4 ≤ 600; omega)) (fun M16 _ p16 => ?_)
    have c16 : (rd M16 0 1).toInt = (rd M13 0 1).toInt + 4 := p16.2
    exact Sf.ok ⟨p16.1, Or.inr ⟨by omega, by show (rd M16 0 1).toInt = _; omega, by show (rd M16 0 1).toInt = _; omega⟩⟩
  · have c := i_nle c
    omega
/-! load -/
abbrev sZ (s : Nat → Int × Int) : Nat → Int × Int := fun i => if i = 1 then (0, 0) else s i
theorem sX6_load_ex (h : OKb (fT (sB s)) M) : Sf (mX6_load 0 x1 M) (fun q => (q.1 = M ∧ q.2 = Sum.inr 0 ∧ (x1.toInt < 0 ∨ (rd M 0 1).toInt < x1.toInt)) ∨ (OKb (fT (sZ s)) q.1 ∧ (∃ r, q.2 = Sum.inl r) ∧ 0 ≤ x1.toInt ∧ x1.toInt ≤ (rd M 0 1).toInt)) := by
  unfold mX6_load mX6_load_b12
  have b : (0 : Int) ≤ (rd M 0 1).toInt ∧ (rd M 0 1).toInt ≤ 600 := h.at rfl
  refine Sf.i (fun c => Sf.ok (Or.inl ⟨rfl, rfl, Or.inl ?_⟩)) (fun c => Sf.i (fun c2 => Sf.b (fun M3 e3 => ?_)) (fun c2 => Sf.ok (Or.inl ⟨rfl, rfl, Or.inr (i_nle c2)⟩)))
  · have c := i_lt.mp c
    rw [show ((0 : Int32)).toInt = 0 from rfl] at c
    exact c
  · have c := i_nlt c
    rw [show ((0 : Int32)).toInt = 0 from rfl] at c
    have c2 := i_le.mp c2
    have h3 : OKb (fT (sZ s)) M3 := by
      rw [e3]
      intro k j
      by_cases e : k = 0 ∧ j = 1
      · obtain ⟨rfl, rfl⟩ := e
        rw [rd_we]
        show (0 : Int) ≤ ((0 : Int32)).toInt ∧ ((0 : Int32)).toInt ≤ 0
        decide
      · have e1 : rd (wr M 0 1 0) k j = rd M k j := by
          by_cases k0 : k = 0
          · subst k0; exact rd_wj (by omega)
          · exact rd_wk k0
        rw [e1]
        have hk := h k j
        have e2 : bxc (fT (sZ s)) k j = bxc (fT (sB s)) k j := by
          unfold bxc
          by_cases k0 : k = 0
          · subst k0
            rw [if_pos rfl, if_pos rfl, if_neg (by omega), if_neg (by omega)]
          · simp only [k0, if_false]
            rfl
        rw [e2]; exact hk
    refine Sf.m (sX4_readText isP_13 h3 ⟨c, by omega⟩) (fun M7 r6 p7 => Sf.i (fun _ => Sf.ok (Or.inr ⟨p7.1, ⟨_, rfl⟩, c, c2⟩)) (fun _ => ?_))
    refine Sf.m (sX1_copyFrom isP_5 isP_13 p7.1) (fun M11 _ p11 => ?_)
    refine Sf.m (sX0_forgetAll p11.1) (fun M14 _ p14 => ?_)
    exact Sf.c (sX1_bendCount isP_5 p14) (fun r _ => Sf.ok (Or.inr ⟨p14, ⟨_, rfl⟩, c, c2⟩))
theorem sL_load_ex {k1 : Nat} (h : OKb (fT (sB s)) M) : Sf (mL_load 0 k1 x1 M) (fun q => (∃ r, q.2 = Sum.inl r) ∧ ((OKb (fT (sB s)) q.1 ∧ (rd q.1 0 1).toInt = (rd M 0 1).toInt ∧ rd q.1 133 0 = rd M 133 0 ∧ rd q.1 133 3 = rd M 133 3 ∧ (x1.toInt < 0 ∨ (rd M 0 1).toInt < x1.toInt)) ∨ (OKb (fT (sZ s)) q.1 ∧ 0 ≤ x1.toInt ∧ x1.toInt ≤ (rd M 0 1).toInt))) := by
  unfold mL_load
  refine Sf.t (sX6_load_ex h) (fun M3 r2 p => ?_) (fun M3 e4 p => ?_)
  · rcases p with ⟨_, p, _⟩ | ⟨p, _, c⟩
    · cases p
    · exact Sf.k (by decide) (Sf.b (fun M7 e => Sf.ok ⟨⟨_, rfl⟩, Or.inr ⟨by rw [e]; exact OKb.pl p, c⟩⟩))
  · rcases p with ⟨p1, p2, c⟩ | ⟨_, ⟨r, p⟩, _⟩
    · have e : M3 = M := p1
      subst e
      have e0 : e4 = 0 := Sum.inr.inj p2
      exact Sf.i (fun _ => Sf.ok ⟨⟨_, rfl⟩, Or.inl ⟨h, rfl, rfl, rfl, c⟩⟩) (fun q => absurd e0 q)
    · cases p
end IO
end
