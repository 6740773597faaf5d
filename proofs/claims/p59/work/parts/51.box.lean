/-! the class's memory: a box for every slot (f: while a text is read) -/
abbrev bT : Int × Int := (-2147483648, 2147483647)
def bxP : Nat → Nat → Int × Int
  | 0, 0 => (0, 9)
  | 0, 2 => (0, 255)
  | 0, 7 => (0, 99)
  | 0, 8 => (0, 99)
  | 0, 9 => (0, 99)
  | 0, 10 => (0, 8)
  | 0, 13 => (0, 255)
  | 0, 14 => (0, 8)
  | 1, _ => (0, 9999)
  | 5, _ => (0, 15)
  | 7, _ => (0, 297)
  | _, _ => bT
def bxL : Nat → Nat → Int × Int
  | 0, 6 => (0, 9)
  | 0, 7 => (0, 8)
  | 0, 8 => (-1, 8)
  | _, _ => bT
def bxN0 : Nat → Int × Int
  | 3 => (-1, 8)
  | 6 => (0, 1)
  | _ => bT
def bxH : Nat → Int × Int
  | 1 => (0, 9)
  | 2 => (0, 10)
  | _ => bT
def bxR (f : Bool) : Nat → Int × Int
  | 0 => (0, 5)
  | 1 => (-1, 600)
  | 2 => if f then (1, 1) else (0, 1)
  | 3 => (0, 600)
  | 4 => (0, 600)
  | 5 => (0, 600)
  | 6 => (0, 4)
  | _ => bT
def bxB : Nat → Int × Int
  | 0 => (0, 2)
  | 1 => (0, 0)
  | 2 => (0, 1)
  | 3 => (0, 70)
  | _ => bT
abbrev Bx : Type := Bool × (Nat → Int × Int) × (Nat → Int × Int)
def bxc (f : Bx) (k j : Nat) : Int × Int :=
  if k = 0 then (if j = 1 then f.2.2 1 else bT) else if k = 1 then (-128, 127) else if k = 2 then bxR f.1 j else if k = 3 then f.2.1 j else if k < 5 then bT
  else if k < 21 then bxP ((k - 5) % 8) j else if k = 21 then bxH j else if k = 22 then bT else if k < 103 then bxP ((k - 23) % 8) j
  else if k < 110 then bxL (k - 103) j else if k = 110 then bxN0 j else if k = 111 then (0, 15) else if k < 119 then bxL (k - 112) j
  else if k < 127 then bxP (k - 119) j else if k = 127 then (-1, 2147483647) else if k = 128 then (0, 1) else if k = 129 then bT
  else if k = 130 then (0, 2147483647) else if k < 133 then bT else if k = 133 then (if j = 0 then f.2.2 0 else if j = 3 then f.2.2 2 else bxB j) else if k = 134 then (-128, 127) else bT
def OKb (f : Bx) (M : Mem) : Prop := ∀ k j, (bxc f k j).1 ≤ (rd M k j).toInt ∧ (rd M k j).toInt ≤ (bxc f k j).2
def isP (k : Nat) : Prop := k = 5 ∨ k = 13 ∨ k = 119 ∨ ∃ i, i < 10 ∧ k = 23 + 8 * i
def isL (k : Nat) : Prop := k = 103 ∨ k = 112
theorem isP_5 : isP 5 := Or.inl rfl
theorem isP_13 : isP 13 := Or.inr (Or.inl rfl)
theorem isP_119 : isP 119 := Or.inr (Or.inr (Or.inl rfl))
theorem isP_h {i : Nat} (h : i < 10) : isP (21 + 1 + 1 + 8 * i) := Or.inr (Or.inr (Or.inr ⟨i, h, by omega⟩))
theorem isL_103 : isL 103 := Or.inl rfl
theorem isL_112 : isL 112 := Or.inr rfl
section BX
variable {f : Bx} {k c j : Nat} {M : Mem} {v : Int32} {b : Int × Int}
theorem bx_P (h : isP k) (hc : c < 8) : bxc f (k + c) j = bxP c j := by
  unfold bxc
  rcases h with rfl | rfl | rfl | ⟨i, hi, rfl⟩
  all_goals
    repeat rw [if_neg (by omega)]
    rw [if_pos (by omega)]
    congr 1
    omega
theorem bx_L (h : isL k) (hc : c < 7) : bxc f (k + c) j = bxL c j := by
  unfold bxc
  rcases h with rfl | rfl
  all_goals
    repeat rw [if_neg (by omega)]
    rw [if_pos (by omega)]
    congr 1
    omega
theorem bx_P0 (h : isP k) : bxc f k j = bxP 0 j := bx_P (c := 0) h (by omega)
theorem bx_L0 (h : isL k) : bxc f k j = bxL 0 j := bx_L (c := 0) h (by omega)
theorem OKb.at (h : OKb f M) (hb : bxc f k j = b) : b.1 ≤ (rd M k j).toInt ∧ (rd M k j).toInt ≤ b.2 := by
  subst hb; exact h k j
theorem OKb.put (h : OKb f M) (hb : bxc f k j = b) (hv : b.1 ≤ v.toInt ∧ v.toInt ≤ b.2) : OKb f (wr M k j v) := by
  subst hb
  intro k' j'
  by_cases e : k' = k
  · subst e
    by_cases e2 : j' = j
    · subst e2; rw [rd_we]; exact hv
    · rw [rd_wj e2]; exact h k' j'
  · rw [rd_wk e]; exact h k' j'
theorem OKb.cp {k2 n : Nat} (h : OKb f M) (hb : ∀ j, bxc f k j = bxc f k2 j) : OKb f (cpy M k k2 0 0 n) := by
  intro k' j'
  by_cases e : k' = k2
  · subst e
    show (bxc f k' j').1 ≤ ((cpy M k k' 0 0 n).1 k' j').toInt ∧ ((cpy M k k' 0 0 n).1 k' j').toInt ≤ (bxc f k' j').2
    rw [cpy_s]
    unfold va_cpy
    split
    · have := h k j'
      rw [hb] at this
      have e9 : 0 + (j' - 0) = j' := by omega
      rw [e9]; exact this
    · exact h k' j'
  · have e8 : rd (cpy M k k2 0 0 n) k' j' = rd M k' j' := congrFun (cpy_o (M := M) (a := k) (sp := 0) (dp := 0) (n := n) k' e).1 j'
    rw [e8]
    exact h k' j'
theorem OKb.pl (h : OKb f M) {q : Int64} : OKb f (wl M k j q) := h
theorem OKb.pd (h : OKb f M) {q : UInt64} : OKb f (wd M k j q) := h
end BX

