theorem st_len8 : ∀ k, k < 12 → stLen k ≤ 8 := by decide +kernel
/-! by hand: words, their texts -/
theorem of_rel {r : Option Nat} {w : Nat} {z : Int} (h : r = none ∨ ∃ v, r = some v ∧ 5 ≤ v ∧ v ≤ 9 ∧ (v : Int) = 5 + z) (c : r = some w) : 5 ≤ w ∧ w ≤ 9 ∧ (w : Int) = 5 + z := by
  rcases h with h | ⟨v, h, h1⟩
  · rw [h] at c; cases c
  · rw [h] at c; cases c; exact h1
def alo (k : Nat) (x : Int32) : Int := if x = 0 then (wF0.getD k 0).toInt else 0
def ahi (k : Nat) (x : Int32) : Int := if x = 0 then (wF1.getD k 0).toInt else if x = 1 then (wF2.getD k 0).toInt else (wF3.getD k 0).toInt
def pA (k : Nat) (x v : Int32) (r : Int32) : Prop := (0 ≤ r.toInt ∧ r.toInt ≤ 1) ∧ (r.toInt = 0 ∨ (alo k x ≤ v.toInt ∧ v.toInt ≤ ahi k x))
theorem sX5_allows {k : Nat} {x v : Int32} {M : Mem} : Sf (mX5_allows k x v M) (pA k x v) := by
  have z0 : Sf (some (0 : Int32)) (pA k x v) := Sf.ok ⟨by decide, Or.inl rfl⟩
  unfold mX5_allows
  refine Sf.i (fun c => ?_) (fun c => ?_)
  · refine Sf.i (fun _ => z0) (fun c2 => Sf.i (fun _ => z0) (fun c3 => Sf.ok ⟨by decide, Or.inr ?_⟩))
    unfold alo ahi
    rw [if_pos c, if_pos c]
    exact ⟨i_nlt c2, i_nlt c3⟩
  · refine Sf.i (fun c1 => ?_) (fun c1 => ?_)
    · refine Sf.i (fun _ => z0) (fun c2 => Sf.i (fun _ => z0) (fun c3 => Sf.ok ⟨by decide, Or.inr ?_⟩))
      unfold alo ahi
      rw [if_neg c, if_neg c, if_pos c1]
      exact ⟨i_nlt c2, i_nlt c3⟩
    · refine Sf.i (fun _ => z0) (fun c2 => Sf.i (fun _ => z0) (fun c3 => Sf.ok ⟨by decide, Or.inr ?_⟩))
      unfold alo ahi
      rw [if_neg c, if_neg c, if_neg c1]
      exact ⟨i_nlt c2, i_nlt c3⟩
theorem sX5_allowsBehind {k : Nat} {x1 x2 x3 : Int32} {M : Mem} : Sf (mX5_allowsBehind k x1 x2 x3 M) (pI 0 1) := by
  unfold mX5_allowsBehind
  have z0 : Sf (some (0 : Int32)) (pI 0 1) := Sf.ok (by decide)
  have z1 : Sf (mX5_allowsBehind_b21 k M) (pI 0 1) := Sf.ok (by decide)
  refine Sf.c sX5_allows (fun r _ => ?_)
  exact Sf.i (fun _ => z0) (fun _ => Sf.i (fun _ => Sf.i (fun _ => z0) (fun _ => z1)) (fun _ => z1))
theorem sX5_ofTool {x : Int32} {M : Mem} : Sf (mX5_ofTool x M) (fun r => r = none ∨ ∃ w, r = some w ∧ 5 ≤ w ∧ w ≤ 9 ∧ (w : Int) = 5 + x.toInt) := by
  unfold mX5_ofTool
  refine Sf.i (fun c => Sf.ok (Or.inr ⟨5, rfl, by omega, by omega, by rw [c]; rfl⟩)) (fun _ => ?_)
  refine Sf.i (fun c => Sf.ok (Or.inr ⟨6, rfl, by omega, by omega, by rw [c]; rfl⟩)) (fun _ => ?_)
  refine Sf.i (fun c => Sf.ok (Or.inr ⟨7, rfl, by omega, by omega, by rw [c]; rfl⟩)) (fun _ => ?_)
  refine Sf.i (fun c => Sf.ok (Or.inr ⟨8, rfl, by omega, by omega, by rw [c]; rfl⟩)) (fun _ => ?_)
  exact Sf.i (fun c => Sf.ok (Or.inr ⟨9, rfl, by omega, by omega, by rw [c]; rfl⟩)) (fun _ => Sf.ok (Or.inl rfl))
theorem sX5_numberCount {w : Nat} {M : Mem} : Sf (mX5_numberCount w M) (fun r => ((1 : Int) ≤ r.toInt ∧ r.toInt ≤ 3) ∧ ((w = 9 ∧ r.toInt = 1) ∨ (5 ≤ w ∧ w ≤ 8 ∧ r.toInt = 2) ∨ w < 5 ∨ 9 < w)) := by
  have h5 : 5 ≤ w ∧ w ≤ 9 ∨ (w < 5 ∨ 9 < w) := by omega
  rcases h5 with ⟨h1, h2⟩ | h
  · have h3 : w = 5 ∨ w = 6 ∨ w = 7 ∨ w = 8 ∨ w = 9 := by omega
    rcases h3 with rfl | rfl | rfl | rfl | rfl
    all_goals exact ⟨_, rfl, by decide⟩
  · unfold mX5_numberCount
    exact Sf.i (fun _ => Sf.i (fun _ => Sf.ok ⟨by decide, Or.inr (Or.inr h)⟩) (fun _ => Sf.ok ⟨by decide, Or.inr (Or.inr h)⟩)) (fun _ => Sf.ok ⟨by decide, Or.inr (Or.inr h)⟩)
theorem sJ0_length {k : Nat} (hk : k < 12) {M : Mem} : mJ0_length_8abf5 k M = some (Int32.ofNat (stLen k)) := by
  have key : ∀ k, k < 12 → mJ0_length_8abf5 k m0 = some (Int32.ofNat (stLen k)) := by decide +kernel
  exact key k hk
theorem sJ0_charAt {k : Nat} (hk : k < 12) {x : Int32} {M : Mem} (h0 : 0 ≤ x.toInt) (h1 : x.toInt < (stLen k : Int)) : Sf (mJ0_charAt_5068e k x M) (fun _ => True) := by
  have e : x = Int32.ofNat x.toInt.toNat := i_nn (fun h => by have := i_lt.mp h; rw [Int32.toInt_zero] at this; omega)
  have key : ∀ k, k < 12 → ∀ j, j < 8 → j < stLen k → (mJ0_charAt_5068e k (Int32.ofNat j) m0).isSome = true := by decide +kernel
  have h8 := st_len8 k hk
  have h := key k hk x.toInt.toNat (by omega) (by omega)
  rw [← e] at h
  have h : (mJ0_charAt_5068e k x M).isSome = true := h
  obtain ⟨y, hy⟩ := Option.isSome_iff_exists.mp h
  exact ⟨y, hy, trivial⟩
theorem sX5_isSpelled_n {f : Bx} {k0 : Nat} (hk : k0 < 12) {M : Mem} (h_M : OKb f M) : ∀ (n : Nat) (x2 x3 x4 : Int32) (_ : 0 ≤ x2.toInt) (_ : x2.toInt + x3.toInt ≤ 600) (_ : 0 ≤ x4.toInt ∧ x4.toInt ≤ x3.toInt) (_ : x3.toInt = (stLen k0 : Int)) (_ : x3.toInt - x4.toInt < n), Sf (mX5_isSpelled_l28 k0 1 M n x2 x3 x4) (pI 0 1) := by
  intro n
  induction n with
  | zero => intro x2 x3 x4 h2 h3 h4 h5 hmu; exfalso; omega
  | succ n IH =>
    intro x2 x3 x4 h2 h3 h4 h5 hmu
    show Sf (mX5_isSpelled_b28 k0 1 M (mX5_isSpelled_l28 k0 1 M n) x2 x3 x4) _
    unfold mX5_isSpelled_b28
    refine Sf.i (fun _ => Sf.ok (by decide)) (fun c => ?_)
    have c := i_nle c
    have e1 := i_add (a := x2) (b := x4) (by omega) (by omega)
    refine Sf.k (ok_in (by omega) (by omega)) ?_
    refine Sf.c (sJ0_charAt hk h4.1 (by omega)) (fun r _ => ?_)
    refine Sf.i (fun _ => ?_) (fun _ => Sf.ok (by decide))
    refine Sf.b (fun v ev => ?_)
    have e2 := i_add (a := x4) (b := 1) (by rw [show ((1 : Int32)).toInt = 1 from rfl]; omega) (by rw [show ((1 : Int32)).toInt = 1 from rfl]; omega)
    rw [← ev, show ((1 : Int32)).toInt = 1 from rfl] at e2
    exact IH x2 x3 v h2 h3 (by omega) h5 (by omega)
theorem sX5_isSpelled {f : Bx} {k0 : Nat} (hk : k0 < 12) {x2 x3 : Int32} {M : Mem} (h_M : OKb f M) (hb : x2.toInt ≤ 600) : Sf (mX5_isSpelled k0 1 x2 x3 M) (pI 0 1) := by
  unfold mX5_isSpelled
  rw [sJ0_length hk]
  show Sf (ite2 (x3 = Int32.ofNat (stLen k0)) _ _) _
  have h8 := st_len8 k0 hk
  refine Sf.i (fun c => ?_) (fun _ => Sf.ok (by decide))
  have e3 : x3.toInt = (stLen k0 : Int) := by rw [c]; exact toInt_of rfl (by omega)
  refine Sf.i (fun _ => Sf.ok (by decide)) (fun c2 => ?_)
  have c2 := i_nlt c2
  rw [Int32.toInt_zero] at c2
  have e4 := i_add (a := x2) (b := x3) (by omega) (by omega)
  refine Sf.i (fun c3 => ?_) (fun _ => Sf.ok (by decide))
  have c3 := i_le.mp c3
  rw [show ((600 : Int32)).toInt = 600 from rfl] at c3
  exact sX5_isSpelled_n hk h_M 5000 x2 x3 0 c2 (by omega) (by rw [Int32.toInt_zero]; omega) e3 (by rw [Int32.toInt_zero]; omega)
def pW (r : Option Nat) : Prop := ∀ w, r = some w → w < 11
theorem sX5_find_n {f : Bx} {M : Mem} (h_M : OKb f M) : ∀ (n : Nat) (x1 x2 x3 : Int32) (_ : x1.toInt ≤ 600) (_ : 0 ≤ x3.toInt ∧ x3.toInt ≤ 11) (_ : 11 - x3.toInt < n), Sf (mX5_find_l2 1 M n x1 x2 x3) pW := by
  intro n
  induction n with
  | zero => intro x1 x2 x3 h1 h3 hmu; exfalso; omega
  | succ n IH =>
    intro x1 x2 x3 h1 h3 hmu
    show Sf (mX5_find_b2 1 M (mX5_find_l2 1 M n) x1 x2 x3) _
    unfold mX5_find_b2
    refine Sf.i (fun _ => Sf.ok (fun w h => by cases h)) (fun c => ?_)
    have c := i_nle c
    rw [show ((11 : Int32)).toInt = 11 from rfl] at c
    refine Sf.k (ok_in (by omega) (by omega)) ?_
    refine Sf.c (sX5_isSpelled (k0 := x3.toNatClampNeg) (by rw [i_clamp]; omega) h_M h1) (fun r _ => ?_)
    refine Sf.i (fun _ => ?_) (fun _ => ?_)
    · refine Sf.b (fun v ev => ?_)
      have e2 := i_add (a := x3) (b := 1) (by rw [show ((1 : Int32)).toInt = 1 from rfl]; omega) (by rw [show ((1 : Int32)).toInt = 1 from rfl]; omega)
      rw [← ev, show ((1 : Int32)).toInt = 1 from rfl] at e2
      exact IH x1 x2 v h1 (by omega) (by omega)
    · refine Sf.k (ok_in (by omega) (by omega)) (Sf.ok (fun w h => ?_))
      cases h
      rw [i_clamp]; omega
theorem sX5_find {f : Bx} {x1 x2 : Int32} {M : Mem} (h_M : OKb f M) (h1 : x1.toInt ≤ 600) : Sf (mX5_find 1 x1 x2 M) pW := by
  unfold mX5_find
  exact sX5_find_n h_M 5000 x1 x2 0 h1 (by rw [Int32.toInt_zero]; omega) (by rw [Int32.toInt_zero]; omega)

