/-! words: spelled alike -/
abbrev stC (k j : Nat) : Int32 := (stB k).getD j 0
theorem st_char : ∀ k, k < 11 → ∀ j, j < 8 → j < stLen k → mJ0_charAt_5068e k (Int32.ofNat j) m0 = some (stC k j) := by decide +kernel
theorem st_low : ∀ k, k < 11 → ∀ j, j < 8 → j < stLen k → 0 ≤ (stC k j).toInt ∧ (stC k j).toInt ≤ 127 := by decide +kernel
theorem spc_one : ∀ k, k < 11 → ∀ k', k' < 11 → k ≠ k' → stLen k = stLen k' → ∃ j, j < 8 ∧ j < stLen k ∧ stC k j ≠ stC k' j := by decide +kernel
/-- the word read last is the k-th -/
def SpC (N : Mem) (k j : Nat) : Prop := rd N 140 ((rd N 135 11).toInt.toNat + j) = stC k j
def Sp (N : Mem) (k : Nat) : Prop := (rd N 135 12).toInt - (rd N 135 11).toInt = (stLen k : Int) ∧ ∀ j, j < stLen k → SpC N k j
section WD
variable {M N : Mem} {k k' : Nat}
theorem Sp.one (h : Sp N k) (h' : Sp N k') (hk : k < 11) (hk' : k' < 11) : k = k' := by
  apply Decidable.byContradiction
  intro q
  have e : stLen k = stLen k' := by have := h.1; have := h'.1; omega
  obtain ⟨j, _, hj, hn⟩ := spc_one k hk k' hk' q e
  exact hn ((h.2 j hj).symm.trans (h'.2 j (by omega)))
theorem pc_char {j : Nat} (hk : k < 11) (hj : j < stLen k) : mJ0_charAt_5068e k (Int32.ofNat j) N = some (stC k j) :=
  st_char k hk j (by have := st_len8 k (by omega); omega) hj
theorem spe_l (hk : k < 11) (h : TT M N) (hl : (rd N 135 12).toInt - (rd N 135 11).toInt = (stLen k : Int)) {x3 : Int32} (h3 : x3.toInt = (stLen k : Int)) : ∀ (fuel i : Nat), i ≤ stLen k → (∀ j, j < i → SpC N k j) → Pc (mX5_isSpelled_l28 k 1 M fuel (rd N 135 11) x3 (Int32.ofNat i)) (fun r => (r = 1 ∧ ∀ j, j < stLen k → SpC N k j) ∨ (r = 0 ∧ ¬ ∀ j, j < stLen k → SpC N k j)) := by
  intro fuel
  induction fuel with
  | zero => intro i _ _; exact Pc.n
  | succ fuel IH =>
    intro i hi hs
    show Pc (mX5_isSpelled_b28 k 1 M (mX5_isSpelled_l28 k 1 M fuel) (rd N 135 11) x3 (Int32.ofNat i)) _
    unfold mX5_isSpelled_b28
    have h8 := st_len8 k (by omega)
    have ti : (Int32.ofNat i).toInt = (i : Int) := t_of (by omega)
    refine Pc.i (fun c => ?_) (fun c => ?_)
    · have c := i_le.mp c
      rw [ti, h3] at c
      exact Pc.ok (Or.inl ⟨rfl, fun j hj => hs j (by omega)⟩)
    · have c := i_nle c
      rw [ti, h3] at c
      have t0 := h.b0; have t1 := h.b1; have t2 := h.b2; have t3 := h.rt.top
      have ea := i_add (a := rd N 135 11) (b := Int32.ofNat i) (by omega) (by omega)
      rw [pc_char hk (by omega)]
      refine Pc.k (fun _ => Pc.c (Pc.self _) (fun r er => ?_))
      cases er
      have ei : (rd N 135 11 + Int32.ofNat i).toNatClampNeg = (rd N 135 11).toInt.toNat + i := by rw [i_clamp]; omega
      rw [ei]
      have hB := (h.rt.byt ((rd N 135 11).toInt.toNat + i) (by omega)).eq (st_low k hk i (by omega) (by omega))
      refine Pc.i (fun c2 => Pc.b (fun y ey => ?_)) (fun c2 => Pc.ok (Or.inr ⟨rfl, fun q => c2 (hB.mpr (q i (by omega)))⟩))
      have ey : y = Int32.ofNat (i + 1) := ey.trans (Int32.ofNat_add i 1).symm
      rw [ey]
      refine IH (i + 1) (by omega) (fun j hj => ?_)
      by_cases e : j = i
      · rw [e]; exact hB.mp c2
      · exact hs j (by omega)
theorem pc_isSpelled (hk : k < 11) (h : TT M N) : Pc (mX5_isSpelled k 1 (rd N 135 11) (rd N 135 12 - rd N 135 11) M) (fun r => (r = 1 ∧ Sp N k) ∨ (r = 0 ∧ ¬ Sp N k)) := by
  unfold mX5_isSpelled
  rw [sJ0_length (by omega)]
  have h8 := st_len8 k (by omega)
  have tl : (Int32.ofNat (stLen k)).toInt = (stLen k : Int) := toInt_of rfl (by omega)
  have t0 := h.b0; have t1 := h.b1; have t2 := h.b2; have t3 := h.rt.top
  have es := i_sub (a := rd N 135 12) (b := rd N 135 11) (by omega) (by omega)
  refine Pc.c (Pc.self _) (fun r er => ?_)
  cases er
  refine Pc.i (fun c2 => ?_) (fun c2 => Pc.ok (Or.inr ⟨rfl, fun q => c2 ?_⟩))
  · have c2 := congrArg Int32.toInt c2
    rw [es, tl] at c2
    have ea := i_add (a := rd N 135 11) (b := rd N 135 12 - rd N 135 11) (by omega) (by omega)
    refine Pc.i (fun q => ?_) (fun _ => Pc.i (fun _ => ?_) (fun q => ?_))
    · have q := i_lt.mp q
      rw [show ((0 : Int32)).toInt = 0 from rfl] at q; exfalso; omega
    · refine Pc.mono (spe_l hk h c2 (es.trans c2) 5000 0 (by omega) (fun j hj => by omega)) (fun r p => ?_)
      rcases p with ⟨e, p⟩ | ⟨e, p⟩
      · exact Or.inl ⟨e, c2, p⟩
      · exact Or.inr ⟨e, fun q => p q.2⟩
    · have q := i_nle q
      rw [show ((600 : Int32)).toInt = 600 from rfl] at q; exfalso; omega
  · rw [i_eq, es, tl]; exact q.1
theorem find_l (h : TT M N) : ∀ (fuel i : Nat), i ≤ 11 → (∀ j, j < i → ¬ Sp N j) → Pc (mX5_find_l2 1 M fuel (rd N 135 11) (rd N 135 12 - rd N 135 11) (Int32.ofNat i)) (fun r => (r = none ∧ ∀ j, j < 11 → ¬ Sp N j) ∨ (∃ w, r = some w ∧ w < 11 ∧ Sp N w)) := by
  intro fuel
  induction fuel with
  | zero => intro i _ _; exact Pc.n
  | succ fuel IH =>
    intro i hi hs
    show Pc (mX5_find_b2 1 M (mX5_find_l2 1 M fuel) _ _ (Int32.ofNat i)) _
    unfold mX5_find_b2
    have ti : (Int32.ofNat i).toInt = (i : Int) := t_of (by omega)
    have n11 : ((11 : Int32)).toInt = 11 := rfl
    refine Pc.i (fun c => ?_) (fun c => Pc.k (fun _ => ?_))
    · have c := i_le.mp c
      rw [ti, n11] at c
      exact Pc.ok (Or.inl ⟨rfl, fun j hj => hs j (by omega)⟩)
    · have c := i_nle c
      rw [ti, n11] at c
      have ei : (Int32.ofNat i).toNatClampNeg = i := by rw [i_clamp]; omega
      rw [ei]
      refine Pc.c (pc_isSpelled (by omega) h) (fun r p => Pc.i (fun q => Pc.b (fun y ey => ?_)) (fun q => Pc.k (fun _ => Pc.ok (Or.inr ⟨i, rfl, by omega, ?_⟩))))
      · have ey : y = Int32.ofNat (i + 1) := ey.trans (Int32.ofNat_add i 1).symm
        rw [ey]
        refine IH (i + 1) (by omega) (fun j hj => ?_)
        by_cases e : j = i
        · rw [e]
          rcases p with ⟨p, _⟩ | ⟨_, p⟩
          · rw [q] at p; exact absurd p (by decide)
          · exact p
        · exact hs j (by omega)
      · rcases p with ⟨_, p⟩ | ⟨p, _⟩
        · exact p
        · exact absurd p q
theorem pc_find (h : TT M N) : Pc (mX5_find 1 (rd N 135 11) (rd N 135 12 - rd N 135 11) M) (fun r => (r = none ∧ ∀ j, j < 11 → ¬ Sp N j) ∨ (∃ w, r = some w ∧ w < 11 ∧ Sp N w)) := by
  unfold mX5_find
  exact find_l h 5000 0 (by omega) (fun j hj => by omega)
end WD

