/-! the reference's memory: boxes; g gives a box for every slot that a step's laying doesn't write, and what is told of longs -/
def bxS (m : Int) (j : Nat) : Int × Int :=
  if j = 0 then (0, 8) else if j = 1 then (0, 9) else if j < 11 then (0, 9999) else if j < 19 then (0, 1) else if j = 19 then (0, 8) else if j < 36 then (0, 999)
  else if j = 36 then (m, 60) else if j = 37 then (0, 200) else if j = 38 then (0, 100) else if j < 49 then (0, 9999) else if j < 52 then (0, 99) else if j = 52 then (0, 255)
  else if j = 53 then (0, 8) else if j < 86 then (if j % 4 = 2 then (0, 7) else if j % 4 = 3 then (0, 1) else if j % 4 = 1 then (0, 297) else bT) else bT
def bxM0 (j : Nat) : Int × Int :=
  if j = 4 then (0, 10) else if j = 7 then (0, 600) else if j = 10 then (0, 600) else if j = 11 then (0, 600) else if j = 12 then (0, 600) else if j = 30 then (0, 120) else bT
def stdM (k j : Nat) : Int × Int :=
  if k = 135 then bxM0 j else if k = 136 then bxS 1 j else if k = 137 then bxS 0 j else if k = 139 then bxS 0 (j % 86) else if k = 145 then (0, 1) else if k = 150 then (0, 1) else bT
abbrev Gm : Type := (Nat → Nat → Int × Int) × (Nat → Nat → Int64 → Prop)
def bxm (g : Gm) (k j : Nat) : Int × Int := if (k = 135 ∧ (j = 5 ∨ j = 21 ∨ j = 22)) ∨ (141 ≤ k ∧ k ≤ 144) then bT else g.1 k j
def OKm (g : Gm) (M : Mem) : Prop := (∀ k j, (stdM k j).1 ≤ (g.1 k j).1 ∧ (g.1 k j).2 ≤ (stdM k j).2) ∧ (∀ k j, (bxm g k j).1 ≤ (rd M k j).toInt ∧ (rd M k j).toInt ≤ (bxm g k j).2) ∧ ∀ k j, g.2 k j (rl M k j)
/-- the same, where a plan's tables may be written -/
def w2 (g : Gm) : Gm := (fun k j => if 145 ≤ k ∧ k ≤ 150 then stdM k j else g.1 k j, fun _ _ _ => True)
section BM
variable {g : Gm} {k j : Nat} {M : Mem} {v : Int32} {b : Int × Int} {lo hi : Int}
theorem OKm.std (h : OKm g M) (k j : Nat) : (stdM k j).1 ≤ (rd M k j).toInt ∧ (rd M k j).toInt ≤ (stdM k j).2 := by
  have h1 := h.1 k j
  have h2 := h.2.1 k j
  unfold bxm at h2
  split at h2
  · have e : stdM k j = bT := by
      unfold stdM
      rename_i c
      rcases c with ⟨rfl, rfl | rfl | rfl⟩ | c
      · rfl
      · rfl
      · rfl
      · repeat rw [if_neg (by omega)]
    rw [e]; exact h2
  · omega
theorem OKm.at (h : OKm g M) (hb : stdM k j = b) : b.1 ≤ (rd M k j).toInt ∧ (rd M k j).toInt ≤ b.2 := by
  subst hb; exact h.std k j
theorem OKm.ri (h : OKm g M) {i : Int32} (a c : Nat) (hr : ∀ j, j < c + 1 → a ≤ j → lo ≤ (stdM k j).1 ∧ (stdM k j).2 ≤ hi) (h1 : (a : Int) ≤ i.toInt) (h2 : i.toInt ≤ (c : Int)) : lo ≤ (rd M k i.toNatClampNeg).toInt ∧ (rd M k i.toNatClampNeg).toInt ≤ hi := by
  have e := i_clamp (x := i)
  have h3 := hr i.toNatClampNeg (by omega) (by omega)
  have h4 := h.std k i.toNatClampNeg
  omega
theorem OKm.put (h : OKm g M) (hb : bxm g k j = b) (hv : b.1 ≤ v.toInt ∧ v.toInt ≤ b.2) : OKm g (wr M k j v) := by
  subst hb
  refine ⟨h.1, fun k' j' => ?_, h.2.2⟩
  by_cases e : k' = k
  · subst e
    by_cases e2 : j' = j
    · subst e2; rw [rd_we]; exact hv
    · rw [rd_wj e2]; exact h.2.1 k' j'
  · rw [rd_wk e]; exact h.2.1 k' j'
theorem OKm.w2 (h : OKm g M) : OKm (w2 g) M := by
  refine ⟨fun k j => ?_, fun k j => ?_, fun _ _ => trivial⟩
  · show (stdM k j).1 ≤ (if 145 ≤ k ∧ k ≤ 150 then stdM k j else g.1 k j).1 ∧ (if 145 ≤ k ∧ k ≤ 150 then stdM k j else g.1 k j).2 ≤ (stdM k j).2
    split
    · exact ⟨Int.le_refl _, Int.le_refl _⟩
    · exact h.1 k j
  · have h2 := h.2.1 k j
    have h3 := h.std k j
    unfold bxm at h2 ⊢
    split
    · rename_i c; rw [if_pos c] at h2; exact h2
    · rename_i c
      rw [if_neg c] at h2
      show (if 145 ≤ k ∧ k ≤ 150 then stdM k j else g.1 k j).1 ≤ _ ∧ _ ≤ (if 145 ≤ k ∧ k ≤ 150 then stdM k j else g.1 k j).2
      split
      · exact h3
      · exact h2
/-- what stays: a memory's slots as points -/
def gP (g : Gm) (M : Mem) (S : Nat → Nat → Prop) [∀ k j, Decidable (S k j)] : Gm := (fun k j => if S k j then ((rd M k j).toInt, (rd M k j).toInt) else g.1 k j, fun k j v => v = rl M k j)
theorem OKm.points (h : OKm g M) (S : Nat → Nat → Prop) [∀ k j, Decidable (S k j)] : OKm (gP g M S) M := by
  refine ⟨fun k j => ?_, fun k j => ?_, fun k j => rfl⟩
  · have h3 := h.std k j
    show (stdM k j).1 ≤ (if S k j then ((rd M k j).toInt, (rd M k j).toInt) else g.1 k j).1 ∧ (if S k j then ((rd M k j).toInt, (rd M k j).toInt) else g.1 k j).2 ≤ (stdM k j).2
    split
    · exact h3
    · exact h.1 k j
  · have h2 := h.2.1 k j
    unfold bxm at h2 ⊢
    split
    · rename_i c; rw [if_pos c] at h2; exact h2
    · rename_i c
      rw [if_neg c] at h2
      show (if S k j then ((rd M k j).toInt, (rd M k j).toInt) else g.1 k j).1 ≤ _ ∧ _ ≤ (if S k j then ((rd M k j).toInt, (rd M k j).toInt) else g.1 k j).2
      split
      · exact ⟨Int.le_refl _, Int.le_refl _⟩
      · exact h2
end BM
def qM {ρ : Type} (g : Gm) (q : Mem × ρ) : Prop := OKm g q.1
def qMI (g : Gm) (lo hi : Int) (q : Mem × Int32) : Prop := OKm g q.1 ∧ lo ≤ q.2.toInt ∧ q.2.toInt ≤ hi
/-- 0, or something holds -/
def zor (r : Int32) (P : Prop) : Prop := (0 ≤ r.toInt ∧ r.toInt ≤ 1) ∧ (r.toInt = 0 ∨ P)
theorem b_cmp {a b : Int64} : ((lg_cmp a b) < 0 ↔ a.toInt < b.toInt) ∧ (0 < (lg_cmp a b) ↔ b.toInt < a.toInt) := by
  unfold lg_cmp
  have h1 : a > b ↔ b.toInt < a.toInt := Int64.lt_iff_toInt_lt
  have h3 : a = b ↔ a.toInt = b.toInt := Int64.toInt_inj.symm
  have k1 : ¬ (1 : Int32) < 0 := by decide
  have k2 : (0 : Int32) < 1 := by decide
  have k3 : ¬ (0 : Int32) < 0 := by decide
  have k4 : (-1 : Int32) < 0 := by decide
  have k5 : ¬ (0 : Int32) < -1 := by decide
  by_cases c : a > b
  · rw [if_pos c]
    have := h1.mp c
    exact ⟨⟨fun h => absurd h k1, fun h => by omega⟩, ⟨fun _ => this, fun _ => k2⟩⟩
  · rw [if_neg c]
    have := mt h1.mpr c
    by_cases c2 : a = b
    · rw [if_pos c2]
      have := h3.mp c2
      exact ⟨⟨fun h => absurd h k3, fun h => by omega⟩, ⟨fun h => absurd h k3, fun h => by omega⟩⟩
    · rw [if_neg c2]
      have := mt h3.mpr c2
      exact ⟨⟨fun _ => by omega, fun _ => k4⟩, ⟨fun h => absurd h k5, fun h => by omega⟩⟩
theorem sX7_between {v lo hi : Int64} {a b c : Int} {M : Mem} (hv : v.toInt = a) (hl : lo.toInt = b) (hh : hi.toInt = c) : Sf (mX7_between v lo hi M) (fun r => zor r (b ≤ a ∧ a ≤ c)) := by
  unfold mX7_between
  refine Sf.i (fun _ => Sf.ok ⟨by decide, Or.inl rfl⟩) (fun c1 => Sf.i (fun _ => Sf.ok ⟨by decide, Or.inl rfl⟩) (fun c2 => Sf.ok ⟨by decide, Or.inr ?_⟩))
  have h1 := mt b_cmp.1.mpr c1
  have h2 := mt b_cmp.2.mpr c2
  omega
section GD
variable {g : Gm} {x1 x2 x3 : Int32} {M : Mem}
theorem z01_1 : (0 : Int) ≤ ((1 : Int32)).toInt ∧ ((1 : Int32)).toInt ≤ 1 := by decide
theorem z01_0 : (0 : Int) ≤ ((0 : Int32)).toInt ∧ ((0 : Int32)).toInt ≤ 1 := by decide
theorem th_put (h : OKm g M) {v : Int32} : OKm g (wr M 135 5 v) := h.put rfl (i_rng _)
theorem sX7_good (h : OKm g M) (h1 : 0 ≤ x1.toInt ∧ x1.toInt ≤ 1) : Sf (mX7_good 135 x1 M) (fun q => OKm g q.1 ∧ zor q.2 (¬ x1.toInt = 0)) := by
  unfold mX7_good
  refine Sf.i (fun c => Sf.b (fun M2 e => Sf.k (isB_in h1) (Sf.ok ⟨by rw [e]; exact th_put h, h1, Or.inl ?_⟩))) (fun c => Sf.b (fun M2 e => Sf.k (isB_in h1) (Sf.ok ⟨by rw [e]; exact th_put h, h1, Or.inr ?_⟩)))
  · rw [c]; rfl
  · exact i_ne c
theorem sX7_good_b (h : OKm g M) {y : Int32} : Sf (mX7_good__b18 135 y M) (fun q => OKm g q.1 ∧ zor q.2 (y = 0)) := by
  unfold mX7_good__b18
  refine Sf.b (fun M3 e => ?_)
  subst e
  refine Sf.i (fun c => Sf.ok ⟨th_put h, z01_1, Or.inr ?_⟩) (fun c => Sf.ok ⟨th_put h, z01_0, Or.inl rfl⟩)
  rw [rd_we] at c; exact c
theorem sX7_good_c (h : OKm g M) {y : Int32} : Sf (mX7_good___b26 135 y M) (fun q => OKm g q.1 ∧ zor q.2 (y = 0)) := by
  unfold mX7_good___b26
  refine Sf.b (fun M3 e => ?_)
  subst e
  refine Sf.i (fun c => Sf.ok ⟨th_put h, z01_1, Or.inr ?_⟩) (fun c => Sf.ok ⟨th_put h, z01_0, Or.inl rfl⟩)
  rw [rd_we] at c; exact c
theorem zor_no {r y : Int32} {P : Prop} (hy : ¬ y = 0) (h : zor r (y = 0)) : zor r P := ⟨h.1, Or.inl (h.2.resolve_right hy)⟩
theorem sX7_good_ (h : OKm g M) : Sf (mX7_good_ 135 x1 x2 M) (fun q => OKm g q.1 ∧ zor q.2 (¬ x1.toInt = 0 ∧ ¬ x2.toInt = 0)) := by
  unfold mX7_good_
  refine Sf.i (fun c => Sf.mono (sX7_good_b h) (fun q p => ⟨p.1, zor_no (by decide) p.2⟩)) (fun c => Sf.i (fun c2 => Sf.mono (sX7_good_b h) (fun q p => ⟨p.1, zor_no (by decide) p.2⟩)) (fun c2 => Sf.mono (sX7_good_b h) (fun q p => ⟨p.1, p.2.1, Or.inr ⟨i_ne c, i_ne c2⟩⟩)))
theorem sX7_good__ (h : OKm g M) : Sf (mX7_good__ 135 x1 x2 x3 M) (fun q => OKm g q.1 ∧ zor q.2 (¬ x1.toInt = 0 ∧ ¬ x2.toInt = 0 ∧ ¬ x3.toInt = 0)) := by
  unfold mX7_good__
  refine Sf.i (fun c => Sf.mono (sX7_good_c h) (fun q p => ⟨p.1, zor_no (by decide) p.2⟩)) (fun c => Sf.i (fun c2 => Sf.mono (sX7_good_c h) (fun q p => ⟨p.1, zor_no (by decide) p.2⟩)) (fun c2 => Sf.i (fun c3 => Sf.mono (sX7_good_c h) (fun q p => ⟨p.1, zor_no (by decide) p.2⟩)) (fun c3 => Sf.mono (sX7_good_c h) (fun q p => ⟨p.1, p.2.1, Or.inr ⟨i_ne c, i_ne c2, i_ne c3⟩⟩))))
end GD
section GE
variable {g : Gm} {x1 x2 x3 : Int32} {M : Mem}
theorem zor_isB {r : Int32} {P : Prop} (h : zor r P) : isB r = true := isB_in h.1
theorem sX7_isBend (h : OKm g M) : Sf (mX7_isBend 135 x1 M) (fun r => zor r (0 ≤ x1.toInt ∧ x1.toInt ≤ (rd M (135 + 1) ((0 : Int32)).toNatClampNeg).toInt - 1 ∧ x1.toInt ≤ 7)) := by
  unfold mX7_isBend
  have b : (0 : Int) ≤ (rd M (135 + 1) ((0 : Int32)).toNatClampNeg).toInt ∧ (rd M (135 + 1) ((0 : Int32)).toNatClampNeg).toInt ≤ 8 := h.std 136 0
  have n1 : ((1 : Int32)).toInt = 1 := rfl
  have e := i_sub (a := rd M (135 + 1) ((0 : Int32)).toNatClampNeg) (b := 1) (by omega) (by omega)
  refine Sf.k (by decide) (Sf.c (sX7_between (Int32.toInt_toInt64 _) (b := 0) (by decide) (Int32.toInt_toInt64 _)) (fun r p => Sf.k (zor_isB p) (Sf.ok ⟨p.1, p.2.imp id (fun q => ?_)⟩)))
  omega
theorem sX7_isLeg (h : OKm g M) : Sf (mX7_isLeg 135 x1 M) (fun r => zor r (0 ≤ x1.toInt ∧ x1.toInt ≤ (rd M (135 + 1) ((1 : Int32)).toNatClampNeg).toInt - 1 ∧ x1.toInt ≤ 8)) := by
  unfold mX7_isLeg
  have b : (0 : Int) ≤ (rd M (135 + 1) ((1 : Int32)).toNatClampNeg).toInt ∧ (rd M (135 + 1) ((1 : Int32)).toNatClampNeg).toInt ≤ 9 := h.std 136 1
  have n1 : ((1 : Int32)).toInt = 1 := rfl
  have e := i_sub (a := rd M (135 + 1) ((1 : Int32)).toNatClampNeg) (b := 1) (by omega) (by omega)
  refine Sf.k (by decide) (Sf.c (sX7_between (Int32.toInt_toInt64 _) (b := 0) (by decide) (Int32.toInt_toInt64 _)) (fun r p => Sf.k (zor_isB p) (Sf.ok ⟨p.1, p.2.imp id (fun q => ?_)⟩)))
  omega
theorem sX7_isSide : Sf (mX7_isSide x1 M) (fun r => zor r (0 ≤ x1.toInt ∧ x1.toInt ≤ 1)) := by
  unfold mX7_isSide
  exact Sf.c (sX7_between (Int32.toInt_toInt64 _) (b := 0) (by decide) (c := 1) (by decide)) (fun r p => Sf.k (zor_isB p) (Sf.ok p))
theorem sX7_isTool : Sf (mX7_isTool x1 x2 M) (fun r => zor r ((0 ≤ x1.toInt ∧ x1.toInt ≤ 4) ∧ 0 ≤ x2.toInt ∧ x2.toInt ≤ 1)) := by
  unfold mX7_isTool
  have z0 : ∀ P : Prop, zor (0 : Int32) P := fun _ => ⟨by decide, Or.inl rfl⟩
  refine Sf.c (sX7_between (Int32.toInt_toInt64 _) (b := 0) (by decide) (c := 4) (by decide)) (fun r p => Sf.i (fun _ => Sf.ok (z0 _)) (fun c => ?_))
  have hp := p.2.resolve_left (i_ne c)
  refine Sf.i (fun _ => ?_) (fun _ => ?_)
  · unfold mX7_isTool_b25
    exact Sf.c (sX7_between (Int32.toInt_toInt64 _) (b := 0) (by decide) (c := 0) (by decide)) (fun r p => Sf.i (fun _ => Sf.ok (z0 _)) (fun c => Sf.ok ⟨by decide, Or.inr ⟨hp, by have := p.2.resolve_left (i_ne c); omega⟩⟩))
  · unfold mX7_isTool_b25
    exact Sf.c (sX7_between (Int32.toInt_toInt64 _) (b := 0) (by decide) (c := 1) (by decide)) (fun r p => Sf.i (fun _ => Sf.ok (z0 _)) (fun c => Sf.ok ⟨by decide, Or.inr ⟨hp, by have := p.2.resolve_left (i_ne c); omega⟩⟩))
end GE
section GF
variable {g : Gm} {x1 x2 : Int32} {M : Mem}
theorem stepOf_at (h1 : 0 ≤ x1.toInt ∧ x1.toInt ≤ 7) (h2 : 0 ≤ x2.toInt ∧ x2.toInt ≤ 3) : (((54 : Int32) + ((4 : Int32) * x1)) + x2).toInt = 54 + 4 * x1.toInt + x2.toInt := by
  have n4 : ((4 : Int32)).toInt = 4 := rfl
  have n54 : ((54 : Int32)).toInt = 54 := rfl
  have e1 := i_mulc (a := (4 : Int32)) (b := x1) (c := 4) rfl (by omega) (by omega)
  have e2 := i_add (a := (54 : Int32)) (b := (4 : Int32) * x1) (by omega) (by omega)
  have e3 := i_add (a := (54 : Int32) + (4 : Int32) * x1) (b := x2) (by omega) (by omega)
  omega
theorem sX7_stepOfx (h1 : 0 ≤ x1.toInt ∧ x1.toInt ≤ 7) (h2 : 0 ≤ x2.toInt ∧ x2.toInt ≤ 3) : Sf (mX7_stepOf 135 x1 x2 M) (fun r => r = rd M 136 (54 + 4 * x1.toInt.toNat + x2.toInt.toNat)) := by
  unfold mX7_stepOf
  have e := stepOf_at h1 h2
  refine Sf.k (ok_in (by omega) (by omega)) (Sf.ok ?_)
  show rd M 136 _ = _
  rw [i_clamp, e]
  congr 1
  omega
theorem bx_step0 : ∀ n, n < 8 → stdM 136 (54 + 4 * n + 0) = (0, 7) := by decide
theorem bx_step1 : ∀ n, n < 8 → stdM 136 (54 + 4 * n + 1) = (0, 1) := by decide
theorem bx_step3 : ∀ n, n < 8 → stdM 136 (54 + 4 * n + 3) = (0, 297) := by decide
theorem sX7_stepOf0 (h : OKm g M) (h1 : 0 ≤ x1.toInt ∧ x1.toInt ≤ 7) : Sf (mX7_stepOf 135 x1 (0 : Int32) M) (pI 0 7) := by
  refine Sf.mono (sX7_stepOfx h1 (by decide)) (fun r e => ?_)
  rw [e]; exact h.at (bx_step0 _ (by omega))
theorem sX7_stepOf1 (h : OKm g M) (h1 : 0 ≤ x1.toInt ∧ x1.toInt ≤ 7) : Sf (mX7_stepOf 135 x1 (1 : Int32) M) (pI 0 1) := by
  refine Sf.mono (sX7_stepOfx h1 (by decide)) (fun r e => ?_)
  rw [e]; exact h.at (bx_step1 _ (by omega))
theorem sX7_stepOf2 (h1 : 0 ≤ x1.toInt ∧ x1.toInt ≤ 7) : Sf (mX7_stepOf 135 x1 (2 : Int32) M) (fun _ => True) := Sf.mono (sX7_stepOfx h1 (by decide)) (fun _ _ => trivial)
theorem sX7_stepOf3 (h : OKm g M) (h1 : 0 ≤ x1.toInt ∧ x1.toInt ≤ 7) : Sf (mX7_stepOf 135 x1 (3 : Int32) M) (pI 0 297) := by
  refine Sf.mono (sX7_stepOfx h1 (by decide)) (fun r e => ?_)
  rw [e]; exact h.at (bx_step3 _ (by omega))
end GF
