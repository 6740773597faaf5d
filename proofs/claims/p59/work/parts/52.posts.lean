/-! what is told of a method's answer -/
abbrev pI (lo hi : Int) (r : Int32) : Prop := lo ≤ r.toInt ∧ r.toInt ≤ hi
def pD (_ : UInt64) : Prop := True
def pL (_ : Int64) : Prop := True
def pT (_ : Option Nat) : Prop := True
def pM {ρ : Type} (f : Bx) (q : Mem × ρ) : Prop := OKb f q.1
def pMI (f : Bx) (lo hi : Int) (q : Mem × Int32) : Prop := OKb f q.1 ∧ lo ≤ q.2.toInt ∧ q.2.toInt ≤ hi
def pX {ρ : Type} (f : Bx) (R : ρ → Prop) (es : List Nat) (q : Mem × (ρ ⊕ Nat)) : Prop := OKb f q.1 ∧ match q.2 with
  | .inl r => R r
  | .inr e => e ∈ es
abbrev rT {ρ : Type} (_ : ρ) : Prop := True
abbrev rI (lo hi : Int) (r : Int32) : Prop := lo ≤ r.toInt ∧ r.toInt ≤ hi
theorem mem_sub {as bs : List Nat} (h : ∀ a ∈ as, a ∈ bs) {e : Nat} (he : e ∈ as) : e ∈ bs := h e he
theorem isB_in {r : Int32} (h : 0 ≤ r.toInt ∧ r.toInt ≤ 1) : isB r = true := by
  have h2 : r.toInt = 0 ∨ r.toInt = 1 := by omega
  rcases h2 with h2 | h2
  · rw [i_eq.mpr (h2.trans rfl : r.toInt = (0 : Int32).toInt)]; rfl
  · rw [i_eq.mpr (h2.trans rfl : r.toInt = (1 : Int32).toInt)]; rfl
theorem nz_in {r : Int32} (h : ¬ r.toInt = 0) : nzb r = true := by
  unfold nzb
  rw [decide_eq_false (fun e => h (by rw [e]; rfl))]; rfl
theorem wF0_b (w : Nat) : 0 ≤ (wF0.getD w 0).toInt ∧ (wF0.getD w 0).toInt ≤ 1 := by
  by_cases h : w < 11
  · have key : ∀ w, w < 11 → 0 ≤ (wF0.getD w 0).toInt ∧ (wF0.getD w 0).toInt ≤ 1 := by decide
    exact key w h
  · rw [List.getD_eq_getElem?_getD, List.getElem?_eq_none (by show 11 ≤ w; omega)]; decide
theorem wF1_b (w : Nat) : 0 ≤ (wF1.getD w 0).toInt ∧ (wF1.getD w 0).toInt ≤ 9999 := by
  by_cases h : w < 11
  · have key : ∀ w, w < 11 → 0 ≤ (wF1.getD w 0).toInt ∧ (wF1.getD w 0).toInt ≤ 9999 := by decide
    exact key w h
  · rw [List.getD_eq_getElem?_getD, List.getElem?_eq_none (by show 11 ≤ w; omega)]; decide
theorem wF2_b (w : Nat) : 0 ≤ (wF2.getD w 0).toInt ∧ (wF2.getD w 0).toInt ≤ 9999 := by
  by_cases h : w < 11
  · have key : ∀ w, w < 11 → 0 ≤ (wF2.getD w 0).toInt ∧ (wF2.getD w 0).toInt ≤ 9999 := by decide
    exact key w h
  · rw [List.getD_eq_getElem?_getD, List.getElem?_eq_none (by show 11 ≤ w; omega)]; decide
theorem wF3_b (w : Nat) : 0 ≤ (wF3.getD w 0).toInt ∧ (wF3.getD w 0).toInt ≤ 100 := by
  by_cases h : w < 11
  · have key : ∀ w, w < 11 → 0 ≤ (wF3.getD w 0).toInt ∧ (wF3.getD w 0).toInt ≤ 100 := by decide
    exact key w h
  · rw [List.getD_eq_getElem?_getD, List.getElem?_eq_none (by show 11 ≤ w; omega)]; decide
theorem bx_out {f f' : Bx} {k j : Nat} (h2 : f.2 = f'.2) (h : k ≠ 2 ∨ j ≠ 2) : bxc f k j = bxc f' k j := by
  unfold bxc
  by_cases e : k = 2
  · subst e
    have hj : j ≠ 2 := h.resolve_left (fun q => q rfl)
    simp only [show ¬ (2 : Nat) = 0 by omega, show ¬ (2 : Nat) = 1 by omega, if_false, if_true]
    unfold bxR
    split <;> first | rfl | (exact absurd rfl hj)
  · simp only [e, if_false, h2]
theorem OKb.read {f : Bx} {M : Mem} {v : Int32} (h : OKb f M) (hv : v = 1) : OKb (true, f.2) (wr M 2 2 v) := by
  subst hv
  intro k j
  by_cases e : k = 2 ∧ j = 2
  · obtain ⟨rfl, rfl⟩ := e
    rw [rd_we]
    show (1 : Int) ≤ ((1 : Int32)).toInt ∧ ((1 : Int32)).toInt ≤ (1 : Int)
    decide
  · have h2 : k ≠ 2 ∨ j ≠ 2 := by omega
    have e1 : rd (wr M 2 2 1) k j = rd M k j := by
      rcases h2 with h2 | h2
      · exact rd_wk h2
      · exact rd_wj h2
    rw [e1, bx_out (f := (true, f.2)) (f' := f) rfl h2]; exact h k j
theorem OKb.weak {f : Bx} {M : Mem} (h : OKb (true, f.2) M) : OKb f M := by
  intro k j
  by_cases e : k = 2 ∧ j = 2
  · obtain ⟨rfl, rfl⟩ := e
    have h1 : (1 : Int) ≤ (rd M 2 2).toInt ∧ (rd M 2 2).toInt ≤ (1 : Int) := h 2 2
    obtain ⟨b, g⟩ := f
    cases b
    · show (0 : Int) ≤ (rd M 2 2).toInt ∧ (rd M 2 2).toInt ≤ (1 : Int)
      omega
    · exact h1
  · have h2 : k ≠ 2 ∨ j ≠ 2 := by omega
    rw [bx_out (f := f) (f' := (true, f.2)) rfl h2]; exact h k j
theorem OKb.nums {b : Bool} {g g' : Nat → Int × Int} {s : Nat → Int × Int} {M : Mem} (h : OKb (b, g, s) M) (hg : ∀ j, (g' j).1 ≤ (rd M 3 j).toInt ∧ (rd M 3 j).toInt ≤ (g' j).2) : OKb (b, g', s) M := by
  intro k j
  by_cases e : k = 3
  · subst e; exact hg j
  · have e2 : bxc (b, g', s) k j = bxc (b, g, s) k j := by
      unfold bxc
      simp only [e, if_false]
    rw [e2]; exact h k j
theorem isP_21 {k c : Nat} (h : isP k) (hc : c < 8) : 21 ≠ k + c := by
  rcases h with rfl | rfl | rfl | ⟨i, hi, rfl⟩ <;> omega
def pU (_ : Unit) : Prop := True
theorem isP_21z {k : Nat} (h : isP k) : 21 ≠ k := isP_21 (c := 0) h (by omega)
theorem nar_boolean {x : Int32} : 0 ≤ (vp_nar .boolean x).toInt ∧ (vp_nar .boolean x).toInt ≤ 1 := by
  have e : vp_nar .boolean x = x &&& 1 := rfl
  have h := i_andr (a := x) (b := 1) (by decide)
  rw [show ((1 : Int32)).toInt = 1 from rfl] at h
  rw [e]; exact h
theorem nar_byte {x : Int32} : -128 ≤ (vp_nar .byte x).toInt ∧ (vp_nar .byte x).toInt ≤ 127 := by
  have e : vp_nar .byte x = x.toInt8.toInt32 := rfl
  have h1 := Int8.toInt_lt x.toInt8
  have h2 := Int8.le_toInt x.toInt8
  rw [e, Int8.toInt_toInt32]
  omega

