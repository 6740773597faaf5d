/-! part 57.mbox -/
section
/-! the reference's memory: boxes; g gives a box for every slot that a step's laying doesn't write, and what is told of longs -/
def bxS (m : Int) (j : Nat) : Int × Int :=
  if j = 0 then (0, 8) else if j = 1 then (0, 9) else if j < 11 then (0, 9999) else if j < 19 then (0, 1) else if j = 19 then (0, 8) else if j < 36 then (0, 999)
  else if j = 36 then (m, 60) else if j = 37 then (0, 200) else if j = 38 then (0, 100) else if j < 49 then (0, 9999) else if j < 52 then (0, 99) else if j = 52 then (0, 255)
  else if j = 53 then (0, 8) else if j < 86 then (if j % 4 = 2 then (0, 7) else if j % 4 = 3 then (0, 1) else if j % 4 = 1 then (0, 297) else bT) else bT
def bxM0 (j : Nat) : Int × Int :=
  if j = 4 then (0, 10) else if j = 7 then (0, 600) else if j = 10 then (0, 600) else if j = 11 then (0, 600) else if j = 12 then (0, 600) else if j = 30 then (0, 120) else bT
def stdM (k j : Nat) : Int × Int :=
  if k = 135 then bxM0 j else if k = 136 then bxS 1 j else if k = 137 then bxS 0 j else if k = 139 then bxS 0 (j % 86) else if k = 145 then (0, 1) else if k = 150 then (0, 1) else bT
abbrev Gm : Type := (Nat → Nat → Int × Int) × (Nat → Nat → Int64 → Prop)
def bxm (g : Gm) (k j : Nat) : Int × Int := if (k = 135 ∧ (j = 5 ∨ j = 21 ∨ j = 22)) ∨ (141 ≤ k ∧ k ≤ 144) then bT else g.1 k j
def OKm (g : Gm) (M : Mem) : Prop := (∀ k j, (stdM k j).1 ≤ (g.1 k j).1 ∧ (g.1 k j).2 ≤ (stdM k j).2) ∧ (∀ k j, (bxm g k j).1 ≤ (rd M k j).toInt ∧ (rd M k j).toInt ≤ (bxm g k j).2) ∧ ∀ k j, g.2 k j (rl M k j)
/-- the same, where a plan's tables may be written -/
def w2 (g : Gm) : Gm := (fun k j => if 145 ≤ k ∧ k ≤ 150 then stdM k j else g.1 k j, fun _ _ _ => True)
section BM
variable {g : Gm} {k j : Nat} {M : Mem} {v : Int32} {b : Int × Int} {lo hi : Int}
theorem OKm.std (h : OKm g M) (k j : Nat) : (stdM k j).1 ≤ (rd M k j).toInt ∧ (rd M k j).toInt ≤ (stdM k j).2 := by
  have h1 := h.1 k j
  have h2 := h.2.1 k j
  unfold bxm at h2
  split at h2
  · have e : stdM k j = bT := by
      unfold stdM
      rename_i c
      rcases c with ⟨rfl, rfl | rfl | rfl⟩ | c
      · rfl
      · rfl
      · rfl
      · repeat rw [if_neg (by omega)]
    rw [e]; exact h2
  · omega
theorem OKm.at (h : OKm g M) (hb : stdM k j = b) : b.1 ≤ (rd M k j).toInt ∧ (rd M k j).toInt ≤ b.2 := by
  subst hb; exact h.std k j
theorem OKm.ri (h : OKm g M) {i : Int32} (a c : Nat) (hr : ∀ j, j < c + 1 → a ≤ j → lo ≤ (stdM k j).1 ∧ (stdM k j).2 ≤ hi) (h1 : (a : Int) ≤ i.toInt) (h2 : i.toInt ≤ (c : Int)) : lo ≤ (rd M k i.toNatClampNeg).toInt ∧ (rd M k i.toNatClampNeg).toInt ≤ hi := by
  have e := i_clamp (x := i)
  have h3 := hr i.toNatClampNeg (by omega) (by omega)
  have h4 := h.std k i.toNatClampNeg
  omega
theorem OKm.put (h : OKm g M) (hb : bxm g k j = b) (hv : b.1 ≤ v.toInt ∧ v.toInt ≤ b.2) : OKm g (wr M k j v) := by
  subst hb
  refine ⟨h.1, fun k' j' => ?_, h.2.2⟩
  by_cases e : k' = k
  · subst e
    by_cases e2 : j' = j
    · subst e2; rw [rd_we]; exact hv
    · rw [rd_wj e2]; exact h.2.1 k' j'
  · rw [rd_wk e]; exact h.2.1 k' j'
theorem OKm.w2 (h : OKm g M) : OKm (w2 g) M := by
  refine ⟨fun k j => ?_, fun k j => ?_, fun _ _ => trivial⟩
  · show (stdM k j).1 ≤ (if 145 ≤ k ∧ k ≤ 150 then stdM k j else g.1 k j).1 ∧ (if 145 ≤ k ∧ k ≤ 150 then stdM k j else g.1 k j).2 ≤ (stdM k j).2
    split
    · exact ⟨Int.le_refl _, Int.le_refl _⟩
    · exact h.1 k j
  · have h2 := h.2.1 k j
    have h3 := h.std k j
    unfold bxm at h2 ⊢
    split
    · rename_i c; rw [if_pos c] at h2; exact h2
    · rename_i c
      rw [if_neg c] at h2
      show (if 145 ≤ k ∧ k ≤ 150 then stdM k j else g.1 k j).1 ≤ _ ∧ _ ≤ (if 145 ≤ k ∧ k ≤ 150 then stdM k j else g.1 k j).2
      split
      · exact h3
      · exact h2
end BM
def qM {ρ : Type} (g : Gm) (q : Mem × ρ) : Prop := OKm g q.1
def qMI (g : Gm) (lo hi : Int) (q : Mem × Int32) : Prop := OKm g q.1 ∧ lo ≤ q.2.toInt ∧ q.2.toInt ≤ hi
/-- 0, or something holds -/
def zor (r : Int32) (P : Prop) : Prop := (0 ≤ r.toInt ∧ r.toInt ≤ 1) ∧ (r.toInt = 0 ∨ P)
theorem b_cmp {a b : Int64} : ((lg_cmp a b) < 0 ↔ a.toInt < b.toInt) ∧ (0 < (lg_cmp a b) ↔ b.toInt < a.toInt) := by
  unfold lg_cmp
  have h1 : a > b ↔ b.toInt < a.toInt := Int64.lt_iff_toInt_lt
  have h3 : a = b ↔ a.toInt = b.toInt := Int64.toInt_inj.symm
  have k1 : ¬ (1 : Int32) < 0 := by decide
  have k2 : (0 : Int32) < 1 := by decide
  have k3 : ¬ (0 : Int32) < 0 := by decide
  have k4 : (-1 : Int32) < 0 := by decide
  have k5 : ¬ (0 : Int32) < -1 := by decide
  by_cases c : a > b
  · rw [if_pos c]
    have := h1.mp c
    exact ⟨⟨fun h => absurd h k1, fun h => by omega⟩, ⟨fun _ => this, fun _ => k2⟩⟩
  · rw [if_neg c]
    have := mt h1.mpr c
    by_cases c2 : a = b
    · rw [if_pos c2]
      have := h3.mp c2
      exact ⟨⟨fun h => absurd h k3, fun h => by omega⟩, ⟨fun h => absurd h k3, fun h => by omega⟩⟩
    · rw [if_neg c2]
      have := mt h3.mpr c2
      exact ⟨⟨fun _ => by omega, fun _ => k4⟩, ⟨fun h => absurd h k5, fun h => by omega⟩⟩
theorem sX7_between {v lo hi : Int64} {a b c : Int} {M : Mem} (hv : v.toInt = a) (hl : lo.toInt = b) (hh : hi.toInt = c) : Sf (mX7_between v lo hi M) (fun r => zor r (b ≤ a ∧ a ≤ c)) := by
  unfold mX7_between
  refine Sf.i (fun _ => Sf.ok ⟨by decide, Or.inl rfl⟩) (fun c1 => Sf.i (fun _ => Sf.ok ⟨by decide, Or.inl rfl⟩) (fun c2 => Sf.ok ⟨by decide, Or.inr ?_⟩))
  have h1 := mt b_cmp.1.mpr c1
  have h2 := mt b_cmp.2.mpr c2
  omega
section GD
variable {g : Gm} {x1 x2 x3 : Int32} {M : Mem}
theorem z01_1 : (0 : Int) ≤ ((1 : Int32)).toInt ∧ ((1 : Int32)).toInt ≤ 1 := by decide
theorem z01_0 : (0 : Int) ≤ ((0 : Int32)).toInt ∧ ((0 : Int32)).toInt ≤ 1 := by decide
theorem th_put (h : OKm g M) {v : Int32} : OKm g (wr M 135 5 v) := h.put rfl (i_rng _)
theorem sX7_good (h : OKm g M) (h1 : 0 ≤ x1.toInt ∧ x1.toInt ≤ 1) : Sf (mX7_good 135 x1 M) (fun q => OKm g q.1 ∧ zor q.2 (¬ x1.toInt = 0)) := by
  unfold mX7_good
  refine Sf.i (fun c => Sf.b (fun M2 e => Sf.k (isB_in h1) (Sf.ok ⟨by rw [e]; exact th_put h, h1, Or.inl ?_⟩))) (fun c => Sf.b (fun M2 e => Sf.k (isB_in h1) (Sf.ok ⟨by rw [e]; exact th_put h, h1, Or.inr ?_⟩)))
  · rw [c]; rfl
  · exact i_ne c
theorem sX7_good_b (h : OKm g M) {y : Int32} : Sf (mX7_good__b18 135 y M) (fun q => OKm g q.1 ∧ zor q.2 (y = 0)) := by
  unfold mX7_good__b18
  refine Sf.b (fun M3 e => ?_)
  subst e
  refine Sf.i (fun c => Sf.ok ⟨th_put h, z01_1, Or.inr ?_⟩) (fun c => Sf.ok ⟨th_put h, z01_0, Or.inl rfl⟩)
  rw [rd_we] at c; exact c
theorem sX7_good_c (h : OKm g M) {y : Int32} : Sf (mX7_good___b26 135 y M) (fun q => OKm g q.1 ∧ zor q.2 (y = 0)) := by
  unfold mX7_good___b26
  refine Sf.b (fun M3 e => ?_)
  subst e
  refine Sf.i (fun c => Sf.ok ⟨th_put h, z01_1, Or.inr ?_⟩) (fun c => Sf.ok ⟨th_put h, z01_0, Or.inl rfl⟩)
  rw [rd_we] at c; exact c
theorem zor_no {r y : Int32} {P : Prop} (hy : ¬ y = 0) (h : zor r (y = 0)) : zor r P := ⟨h.1, Or.inl (h.2.resolve_right hy)⟩
theorem sX7_good_ (h : OKm g M) : Sf (mX7_good_ 135 x1 x2 M) (fun q => OKm g q.1 ∧ zor q.2 (¬ x1.toInt = 0 ∧ ¬ x2.toInt = 0)) := by
  unfold mX7_good_
  refine Sf.i (fun c => Sf.mono (sX7_good_b h) (fun q p => ⟨p.1, zor_no (by decide) p.2⟩)) (fun c => Sf.i (fun c2 => Sf.mono (sX7_good_b h) (fun q p => ⟨p.1, zor_no (by decide) p.2⟩)) (fun c2 => Sf.mono (sX7_good_b h) (fun q p => ⟨p.1, p.2.1, Or.inr ⟨i_ne c, i_ne c2⟩⟩)))
theorem sX7_good__ (h : OKm g M) : Sf (mX7_good__ 135 x1 x2 x3 M) (fun q => OKm g q.1 ∧ zor q.2 (¬ x1.toInt = 0 ∧ ¬ x2.toInt = 0 ∧ ¬ x3.toInt = 0)) := by
  unfold mX7_good__
  refine Sf.i (fun c => Sf.mono (sX7_good_c h) (fun q p => ⟨p.1, zor_no (by decide) p.2⟩)) (fun c => Sf.i (fun c2 => Sf.mono (sX7_good_c h) (fun q p => ⟨p.1, zor_no (by decide) p.2⟩)) (fun c2 => Sf.i (fun c3 => Sf.mono (sX7_good_c h) (fun q p => ⟨p.1, zor_no (by decide) p.2⟩)) (fun c3 => Sf.mono (sX7_good_c h) (fun q p => ⟨p.1, p.2.1, Or.inr ⟨i_ne c, i_ne c2, i_ne c3⟩⟩))))
end GD
section GE
variable {g : Gm} {x1 x2 x3 : Int32} {M : Mem}
theorem zor_isB {r : Int32} {P : Prop} (h : zor r P) : isB r = true := isB_in h.1
theorem sX7_isBend (h : OKm g M) : Sf (mX7_isBend 135 x1 M) (fun r => zor r (0 ≤ x1.toInt ∧ x1.toInt ≤ (rd M (135 + 1) ((0 : Int32)).toNatClampNeg).toInt - 1 ∧ x1.toInt ≤ 7)) := by
  unfold mX7_isBend
  have b : (0 : Int) ≤ (rd M (135 + 1) ((0 : Int32)).toNatClampNeg).toInt ∧ (rd M (135 + 1) ((0 : Int32)).toNatClampNeg).toInt ≤ 8 := h.std 136 0
  have n1 : ((1 : Int32)).toInt = 1 := rfl
  have e := i_sub (a := rd M (135 + 1) ((0 : Int32)).toNatClampNeg) (b := 1) (by omega) (by omega)
  refine Sf.k (by decide) (Sf.c (sX7_between (Int32.toInt_toInt64 _) (b := 0) (by decide) (Int32.toInt_toInt64 _)) (fun r p => Sf.k (zor_isB p) (Sf.ok ⟨p.1, p.2.imp id (fun q => ?_)⟩)))
  omega
theorem sX7_isLeg (h : OKm g M) : Sf (mX7_isLeg 135 x1 M) (fun r => zor r (0 ≤ x1.toInt ∧ x1.toInt ≤ (rd M (135 + 1) ((1 : Int32)).toNatClampNeg).toInt - 1 ∧ x1.toInt ≤ 8)) := by
  unfold mX7_isLeg
  have b : (0 : Int) ≤ (rd M (135 + 1) ((1 : Int32)).toNatClampNeg).toInt ∧ (rd M (135 + 1) ((1 : Int32)).toNatClampNeg).toInt ≤ 9 := h.std 136 1
  have n1 : ((1 : Int32)).toInt = 1 := rfl
  have e := i_sub (a := rd M (135 + 1) ((1 : Int32)).toNatClampNeg) (b := 1) (by omega) (by omega)
  refine Sf.k (by decide) (Sf.c (sX7_between (Int32.toInt_toInt64 _) (b := 0) (by decide) (Int32.toInt_toInt64 _)) (fun r p => Sf.k (zor_isB p) (Sf.ok ⟨p.1, p.2.imp id (fun q => ?_)⟩)))
  omega
theorem sX7_isSide : Sf (mX7_isSide x1 M) (fun r => zor r (0 ≤ x1.toInt ∧ x1.toInt ≤ 1)) := by
  unfold mX7_isSide
  exact Sf.c (sX7_between (Int32.toInt_toInt64 _) (b := 0) (by decide) (c := 1) (by decide)) (fun r p => Sf.k (zor_isB p) (Sf.ok p))
theorem sX7_isTool : Sf (mX7_isTool x1 x2 M) (fun r => zor r ((0 ≤ x1.toInt ∧ x1.toInt ≤ 4) ∧ 0 ≤ x2.toInt ∧ x2.toInt ≤ 1)) := by
  unfold mX7_isTool
  have z0 : ∀ P : Prop, zor (0 : Int32) P := fun _ => ⟨by decide, Or.inl rfl⟩
  refine Sf.c (sX7_between (Int32.toInt_toInt64 _) (b := 0) (by decide) (c := 4) (by decide)) (fun r p => Sf.i (fun _ => Sf.ok (z0 _)) (fun c => ?_))
  have hp := p.2.resolve_left (i_ne c)
  refine Sf.i (fun _ => ?_) (fun _ => ?_)
  · unfold mX7_isTool_b25
    exact Sf.c (sX7_between (Int32.toInt_toInt64 _) (b := 0) (by decide) (c := 0) (by decide)) (fun r p => Sf.i (fun _ => Sf.ok (z0 _)) (fun c => Sf.ok ⟨by decide, Or.inr ⟨hp, by have := p.2.resolve_left (i_ne c); omega⟩⟩))
  · unfold mX7_isTool_b25
    exact Sf.c (sX7_between (Int32.toInt_toInt64 _) (b := 0) (by decide) (c := 1) (by decide)) (fun r p => Sf.i (fun _ => Sf.ok (z0 _)) (fun c => Sf.ok ⟨by decide, Or.inr ⟨hp, by have := p.2.resolve_left (i_ne c); omega⟩⟩))
end GE
section GF
variable {g : Gm} {x1 x2 : Int32} {M : Mem}
theorem stepOf_at (h1 : 0 ≤ x1.toInt ∧ x1.toInt ≤ 7) (h2 : 0 ≤ x2.toInt ∧ x2.toInt ≤ 3) : (((54 : Int32) + ((4 : Int32) * x1)) + x2).toInt = 54 + 4 * x1.toInt + x2.toInt := by
  have n4 : ((4 : Int32)).toInt = 4 := rfl
  have n54 : ((54 : Int32)).toInt = 54 := rfl
  have e1 := i_mulc (a := (4 : Int32)) (b := x1) (c := 4) rfl (by omega) (by omega)
  have e2 := i_add (a := (54 : Int32)) (b := (4 : Int32) * x1) (by omega) (by omega)
  have e3 := i_add (a := (54 : Int32) + (4 : Int32) * x1) (b := x2) (by omega) (by omega)
  omega
theorem sX7_stepOfx (h1 : 0 ≤ x1.toInt ∧ x1.toInt ≤ 7) (h2 : 0 ≤ x2.toInt ∧ x2.toInt ≤ 3) : Sf (mX7_stepOf 135 x1 x2 M) (fun r => r = rd M 136 (54 + 4 * x1.toInt.toNat + x2.toInt.toNat)) := by
  unfold mX7_stepOf
  have e := stepOf_at h1 h2
  refine Sf.k (ok_in (by omega) (by omega)) (Sf.ok ?_)
  show rd M 136 _ = _
  rw [i_clamp, e]
  congr 1
  omega
theorem bx_step0 : ∀ n, n < 8 → stdM 136 (54 + 4 * n + 0) = (0, 7) := by decide
theorem bx_step1 : ∀ n, n < 8 → stdM 136 (54 + 4 * n + 1) = (0, 1) := by decide
theorem bx_step3 : ∀ n, n < 8 → stdM 136 (54 + 4 * n + 3) = (0, 297) := by decide
theorem sX7_stepOf0 (h : OKm g M) (h1 : 0 ≤ x1.toInt ∧ x1.toInt ≤ 7) : Sf (mX7_stepOf 135 x1 (0 : Int32) M) (pI 0 7) := by
  refine Sf.mono (sX7_stepOfx h1 (by decide)) (fun r e => ?_)
  rw [e]; exact h.at (bx_step0 _ (by omega))
theorem sX7_stepOf1 (h : OKm g M) (h1 : 0 ≤ x1.toInt ∧ x1.toInt ≤ 7) : Sf (mX7_stepOf 135 x1 (1 : Int32) M) (pI 0 1) := by
  refine Sf.mono (sX7_stepOfx h1 (by decide)) (fun r e => ?_)
  rw [e]; exact h.at (bx_step1 _ (by omega))
theorem sX7_stepOf2 (h1 : 0 ≤ x1.toInt ∧ x1.toInt ≤ 7) : Sf (mX7_stepOf 135 x1 (2 : Int32) M) (fun _ => True) := Sf.mono (sX7_stepOfx h1 (by decide)) (fun _ _ => trivial)
theorem sX7_stepOf3 (h : OKm g M) (h1 : 0 ≤ x1.toInt ∧ x1.toInt ≤ 7) : Sf (mX7_stepOf 135 x1 (3 : Int32) M) (pI 0 297) := by
  refine Sf.mono (sX7_stepOfx h1 (by decide)) (fun r e => ?_)
  rw [e]; exact h.at (bx_step3 _ (by omega))
end GF
end
/-! part 58.m1 -/
section
set_option maxHeartbeats 2000000 in
theorem sX7_has {g : Gm} {x0 : Int32} {x1 : Int32} {M : Mem} (h_M : OKm g M) (hx0 : (0 : Int) ≤ (x0).toInt ∧ (x0).toInt ≤ 255) (hx1 : (0 : Int) ≤ (x1).toInt ∧ (x1).toInt ≤ 7) : Sf (mX7_has x0 x1 M) (pI (0) (1)) := by
  unfold mX7_has
  try have a_1 := i_shr (a := x0) (b := x1) (by omega)
  have n_2 : ((1 : Int32)).toInt = 1 := rfl
  try have a_3 := i_and (a := (x0 >>> (x1 &&& 31))) (b := (1 : Int32)) (by omega)
  try have a_4 := i_andr (a := (x0 >>> (x1 &&& 31))) (b := (1 : Int32)) (by omega)
  refine Sf.i (fun c_5 => ?_) (fun c_5 => ?_)
  · have c_5 := i_eq.mp c_5
    have z_6 : (0 : Int) ≤ ((1 : Int32)).toInt ∧ ((1 : Int32)).toInt ≤ 1 := ⟨by omega, by omega⟩
    exact Sf.ok z_6
  · have c_5 := i_ne c_5
    have n_7 : ((0 : Int32)).toInt = 0 := rfl
    have z_8 : (0 : Int) ≤ ((0 : Int32)).toInt ∧ ((0 : Int32)).toInt ≤ 1 := ⟨by omega, by omega⟩
    exact Sf.ok z_8
set_option maxHeartbeats 2000000 in
theorem sX7_errorKind {g : Gm} {M : Mem} (h_M : OKm g M) : Sf (mX7_errorKind 135 M) (qMI g (-2147483648) (2147483647)) := by
  unfold mX7_errorKind
  refine Sf.b (fun M1 e_M1 => ?_)
  have h_M1 : OKm g M1 := by rw [e_M1]; exact h_M.put rfl (i_rng _)
  exact Sf.ok ⟨h_M1, (i_rng _)⟩
set_option maxHeartbeats 2000000 in
theorem sX7_errorPosition {g : Gm} {M : Mem} (h_M : OKm g M) : Sf (mX7_errorPosition 135 M) (qMI g (-2147483648) (2147483647)) := by
  unfold mX7_errorPosition
  refine Sf.b (fun M1 e_M1 => ?_)
  have h_M1 : OKm g M1 := by rw [e_M1]; exact h_M.put rfl (i_rng _)
  exact Sf.ok ⟨h_M1, (i_rng _)⟩
set_option maxHeartbeats 2000000 in
theorem sX7_tellNow {g : Gm} {x1 : Int32} {M : Mem} (h_M : OKm g M) (hx1 : (0 : Int) ≤ (x1).toInt ∧ (x1).toInt ≤ 53) : Sf (mX7_tellNow 135 x1 M) (qMI g (0) (9999)) := by
  unfold mX7_tellNow
  refine Sf.b (fun M1 e_M1 => ?_)
  have h_M1 : OKm g M1 := by rw [e_M1]; exact h_M.put rfl (i_rng _)
  refine Sf.k (ok_in (by omega) (by omega)) ?_
  have b_1 : (0 : Int) ≤ (rd M1 (135 + 1) ((x1).toNatClampNeg)).toInt ∧ (rd M1 (135 + 1) ((x1).toNatClampNeg)).toInt ≤ 9999 := h_M1.ri 0 53 (by decide +kernel) (by omega) (by omega)
  have z_2 : (0 : Int) ≤ ((rd M1 (135 + 1) ((x1).toNatClampNeg))).toInt ∧ ((rd M1 (135 + 1) ((x1).toNatClampNeg))).toInt ≤ 9999 := ⟨by omega, by omega⟩
  exact Sf.ok ⟨h_M1, z_2⟩
set_option maxHeartbeats 2000000 in
theorem sX7_bends {g : Gm} {M : Mem} (h_M : OKm g M) : Sf (mX7_bends 135 M) (qMI g (0) (9999)) := by
  unfold mX7_bends
  have n_1 : ((0 : Int32)).toInt = 0 := rfl
  refine Sf.m (sX7_tellNow h_M ⟨by omega, by omega⟩) (fun M3 r2 p_2 => ?_)
  have h_M3 : OKm g M3 := p_2.1
  have p_2 : (0 : Int) ≤ (r2).toInt ∧ (r2).toInt ≤ (9999 : Int) := p_2.2
  have z_3 : (0 : Int) ≤ (r2).toInt ∧ (r2).toInt ≤ 9999 := ⟨by omega, by omega⟩
  exact Sf.ok ⟨h_M3, z_3⟩
set_option maxHeartbeats 2000000 in
theorem sX7_legs {g : Gm} {M : Mem} (h_M : OKm g M) : Sf (mX7_legs 135 M) (qMI g (0) (9999)) := by
  unfold mX7_legs
  have n_1 : ((1 : Int32)).toInt = 1 := rfl
  refine Sf.m (sX7_tellNow h_M ⟨by omega, by omega⟩) (fun M3 r2 p_2 => ?_)
  have h_M3 : OKm g M3 := p_2.1
  have p_2 : (0 : Int) ≤ (r2).toInt ∧ (r2).toInt ≤ (9999 : Int) := p_2.2
  have z_3 : (0 : Int) ≤ (r2).toInt ∧ (r2).toInt ≤ 9999 := ⟨by omega, by omega⟩
  exact Sf.ok ⟨h_M3, z_3⟩
set_option maxHeartbeats 2000000 in
theorem sX7_leg {g : Gm} {x1 : Int32} {M : Mem} (h_M : OKm g M) : Sf (mX7_leg 135 x1 M) (qMI g (0) (9999)) := by
  unfold mX7_leg
  refine Sf.c (sX7_isLeg h_M) (fun r2 p_1 => ?_)
  have p_1 : (0 ≤ (r2).toInt ∧ (r2).toInt ≤ 1) ∧ ((r2).toInt = 0 ∨ (0 ≤ (x1).toInt ∧ (x1).toInt ≤ (rd M (135 + 1) ((1 : Int32)).toNatClampNeg).toInt - 1 ∧ (x1).toInt ≤ 8)) := p_1
  refine Sf.m (sX7_good h_M ⟨by omega, by omega⟩) (fun M6 r5 p_2 => ?_)
  have h_M6 : OKm g M6 := p_2.1
  have p_2 : (0 ≤ (r5).toInt ∧ (r5).toInt ≤ 1) ∧ ((r5).toInt = 0 ∨ (¬ (r2).toInt = 0)) := p_2.2
  have n_3 : ((0 : Int32)).toInt = 0 := rfl
  refine Sf.i (fun c_4 => ?_) (fun c_4 => ?_)
  · have c_4 := i_eq.mp c_4
    have n0_c_4 : ((0 : Int32)).toInt = 0 := rfl
    have n_5 : ((0 : Int32)).toInt = 0 := rfl
    have z_6 : (0 : Int) ≤ ((0 : Int32)).toInt ∧ ((0 : Int32)).toInt ≤ 9999 := ⟨by omega, by omega⟩
    exact Sf.ok ⟨h_M6, z_6⟩
  · have c_4 := i_ne c_4
    have n0_c_4 : ((0 : Int32)).toInt = 0 := rfl
    have n_7 : ((2 : Int32)).toInt = 2 := rfl
    try have a_8 : (((2 : Int32) + x1)).toInt = ((2 : Int32)).toInt + (x1).toInt := i_add (by omega) (by omega)
    refine Sf.k (ok_in (by omega) (by omega)) ?_
    have b_9 : (0 : Int) ≤ (rd M6 (135 + 1) ((((2 : Int32) + x1)).toNatClampNeg)).toInt ∧ (rd M6 (135 + 1) ((((2 : Int32) + x1)).toNatClampNeg)).toInt ≤ 9999 := h_M6.ri 2 10 (by decide +kernel) (by omega) (by omega)
    have z_10 : (0 : Int) ≤ ((rd M6 (135 + 1) ((((2 : Int32) + x1)).toNatClampNeg))).toInt ∧ ((rd M6 (135 + 1) ((((2 : Int32) + x1)).toNatClampNeg))).toInt ≤ 9999 := ⟨by omega, by omega⟩
    exact Sf.ok ⟨h_M6, z_10⟩
set_option maxHeartbeats 2000000 in
theorem sX7_isUp {g : Gm} {x1 : Int32} {M : Mem} (h_M : OKm g M) : Sf (mX7_isUp 135 x1 M) (qMI g (0) (1)) := by
  unfold mX7_isUp
  refine Sf.c (sX7_isBend h_M) (fun r2 p_1 => ?_)
  have p_1 : (0 ≤ (r2).toInt ∧ (r2).toInt ≤ 1) ∧ ((r2).toInt = 0 ∨ (0 ≤ (x1).toInt ∧ (x1).toInt ≤ (rd M (135 + 1) ((0 : Int32)).toNatClampNeg).toInt - 1 ∧ (x1).toInt ≤ 7)) := p_1
  refine Sf.m (sX7_good h_M ⟨by omega, by omega⟩) (fun M6 r5 p_2 => ?_)
  have h_M6 : OKm g M6 := p_2.1
  have p_2 : (0 ≤ (r5).toInt ∧ (r5).toInt ≤ 1) ∧ ((r5).toInt = 0 ∨ (¬ (r2).toInt = 0)) := p_2.2
  have n_3 : ((0 : Int32)).toInt = 0 := rfl
  refine Sf.i (fun c_4 => ?_) (fun c_4 => ?_)
  · have c_4 := i_eq.mp c_4
    have n0_c_4 : ((0 : Int32)).toInt = 0 := rfl
    have n_5 : ((0 : Int32)).toInt = 0 := rfl
    have z_6 : (0 : Int) ≤ ((0 : Int32)).toInt ∧ ((0 : Int32)).toInt ≤ 1 := ⟨by omega, by omega⟩
    exact Sf.ok ⟨h_M6, z_6⟩
  · have c_4 := i_ne c_4
    have n0_c_4 : ((0 : Int32)).toInt = 0 := rfl
    have n_7 : ((11 : Int32)).toInt = 11 := rfl
    try have a_8 : (((11 : Int32) + x1)).toInt = ((11 : Int32)).toInt + (x1).toInt := i_add (by omega) (by omega)
    refine Sf.k (ok_in (by omega) (by omega)) ?_
    have b_9 : (0 : Int) ≤ (rd M6 (135 + 1) ((((11 : Int32) + x1)).toNatClampNeg)).toInt ∧ (rd M6 (135 + 1) ((((11 : Int32) + x1)).toNatClampNeg)).toInt ≤ 1 := h_M6.ri 11 18 (by decide +kernel) (by omega) (by omega)
    have n_10 : ((1 : Int32)).toInt = 1 := rfl
    refine Sf.i (fun c_11 => ?_) (fun c_11 => ?_)
    · have c_11 := i_eq.mp c_11
      have z_12 : (0 : Int) ≤ ((1 : Int32)).toInt ∧ ((1 : Int32)).toInt ≤ 1 := ⟨by omega, by omega⟩
      exact Sf.ok ⟨h_M6, z_12⟩
    · have c_11 := i_ne c_11
      have n_13 : ((0 : Int32)).toInt = 0 := rfl
      have z_14 : (0 : Int) ≤ ((0 : Int32)).toInt ∧ ((0 : Int32)).toInt ≤ 1 := ⟨by omega, by omega⟩
      exact Sf.ok ⟨h_M6, z_14⟩
set_option maxHeartbeats 2000000 in
theorem sX7_sumOfLegs_b4 {g : Gm} {M : Mem} {ih4 : Int32 → Int32 → Int32 → Option Int32} {x1 : Int32} {x2 : Int32} {x3 : Int32} {d4 : Nat} (h_M : OKm g M) (hx1 : (0 : Int) ≤ (x1).toInt ∧ (x1).toInt ≤ 9) (hx3 : (0 : Int) ≤ (x3).toInt ∧ (x3).toInt ≤ 9) (hih4 : ∀ (yx1 : Int32) (yx2 : Int32) (yx3 : Int32), ((0 : Int) ≤ (yx1).toInt ∧ (yx1).toInt ≤ 9) → ((0 : Int) ≤ (yx3).toInt ∧ (yx3).toInt ≤ 9) → 9 - (yx3).toInt < d4 → Sf (ih4 yx1 yx2 yx3) (pI (-2147483648) (2147483647))) (hmu4 : 9 - (x3).toInt ≤ d4) : Sf (mX7_sumOfLegs_b4 135 M ih4 x1 x2 x3) (pI (-2147483648) (2147483647)) := by
  unfold mX7_sumOfLegs_b4
  refine Sf.i (fun c_1 => ?_) (fun c_1 => ?_)
  · have c_1 := i_le.mp c_1
    exact Sf.ok (i_rng _)
  · have c_1 := i_nle c_1
    have n_2 : ((2 : Int32)).toInt = 2 := rfl
    try have a_3 : (((2 : Int32) + x3)).toInt = ((2 : Int32)).toInt + (x3).toInt := i_add (by omega) (by omega)
    refine Sf.k (ok_in (by omega) (by omega)) ?_
    have b_4 : (0 : Int) ≤ (rd M (135 + 1) ((((2 : Int32) + x3)).toNatClampNeg)).toInt ∧ (rd M (135 + 1) ((((2 : Int32) + x3)).toNatClampNeg)).toInt ≤ 9999 := h_M.ri 2 10 (by decide +kernel) (by omega) (by omega)
    refine Sf.b (fun x2_19 e_x2_19 => ?_)
    have d_x2_19 := congrArg Int32.toInt e_x2_19
    have n_5 : ((1 : Int32)).toInt = 1 := rfl
    try have a_6 : ((x3 + (1 : Int32))).toInt = (x3).toInt + ((1 : Int32)).toInt := i_add (by omega) (by omega)
    refine Sf.b (fun x3_20 e_x3_20 => ?_)
    have d_x3_20 := congrArg Int32.toInt e_x3_20
    exact (hih4 _ _ _ ⟨by omega, by omega⟩ ⟨by omega, by omega⟩ (by omega))
theorem sX7_sumOfLegs_l4_n {g : Gm}  {M : Mem}  (h_M : OKm g M)   : ∀ (n : Nat) (x1 : Int32) (x2 : Int32) (x3 : Int32) (hx1 : (0 : Int) ≤ (x1).toInt ∧ (x1).toInt ≤ 9) (hx3 : (0 : Int) ≤ (x3).toInt ∧ (x3).toInt ≤ 9)   (hmu : 9 - (x3).toInt < n), Sf (mX7_sumOfLegs_l4 135 M n x1 x2 x3) (pI (-2147483648) (2147483647)) := by
  intro n
  induction n with
  | zero => intro x1 x2 x3 hx1 hx3 hmu; exfalso; omega
  | succ n IH => intro x1 x2 x3 hx1 hx3 hmu; exact sX7_sumOfLegs_b4  h_M hx1 hx3    IH (by omega)
theorem sX7_sumOfLegs_l4 {g : Gm}  {M : Mem} {x1 : Int32} {x2 : Int32} {x3 : Int32}  (h_M : OKm g M) (hx1 : (0 : Int) ≤ (x1).toInt ∧ (x1).toInt ≤ 9) (hx3 : (0 : Int) ≤ (x3).toInt ∧ (x3).toInt ≤ 9)    (hmu : 9 - (x3).toInt < 5000) : Sf (mX7_sumOfLegs_l4 135 M 5000 x1 x2 x3) (pI (-2147483648) (2147483647)) :=
  sX7_sumOfLegs_l4_n  h_M   5000 _ _ _ hx1 hx3   hmu
set_option maxHeartbeats 2000000 in
theorem sX7_sumOfLegs {g : Gm} {x1 : Int32} {M : Mem} (h_M : OKm g M) (hx1 : (0 : Int) ≤ (x1).toInt ∧ (x1).toInt ≤ 9) : Sf (mX7_sumOfLegs 135 x1 M) (pI (-2147483648) (2147483647)) := by
  unfold mX7_sumOfLegs
  have n_1 : ((0 : Int32)).toInt = 0 := rfl
  exact (sX7_sumOfLegs_l4 h_M ⟨by omega, by omega⟩ ⟨by omega, by omega⟩ (by omega))
set_option maxHeartbeats 2000000 in
theorem sX7_tool {g : Gm} {x1 : Int32} {x2 : Int32} {M : Mem} (h_M : OKm g M) : Sf (mX7_tool 135 x1 x2 M) (qMI g (0) (9999)) := by
  unfold mX7_tool
  refine Sf.c sX7_isTool (fun r2 p_1 => ?_)
  have p_1 : (0 ≤ (r2).toInt ∧ (r2).toInt ≤ 1) ∧ ((r2).toInt = 0 ∨ ((0 ≤ (x1).toInt ∧ (x1).toInt ≤ 4) ∧ 0 ≤ (x2).toInt ∧ (x2).toInt ≤ 1)) := p_1
  refine Sf.m (sX7_good h_M ⟨by omega, by omega⟩) (fun M6 r5 p_2 => ?_)
  have h_M6 : OKm g M6 := p_2.1
  have p_2 : (0 ≤ (r5).toInt ∧ (r5).toInt ≤ 1) ∧ ((r5).toInt = 0 ∨ (¬ (r2).toInt = 0)) := p_2.2
  have n_3 : ((0 : Int32)).toInt = 0 := rfl
  refine Sf.i (fun c_4 => ?_) (fun c_4 => ?_)
  · have c_4 := i_eq.mp c_4
    have n0_c_4 : ((0 : Int32)).toInt = 0 := rfl
    have n_5 : ((0 : Int32)).toInt = 0 := rfl
    have z_6 : (0 : Int) ≤ ((0 : Int32)).toInt ∧ ((0 : Int32)).toInt ≤ 9999 := ⟨by omega, by omega⟩
    exact Sf.ok ⟨h_M6, z_6⟩
  · have c_4 := i_ne c_4
    have n0_c_4 : ((0 : Int32)).toInt = 0 := rfl
    have n_7 : ((39 : Int32)).toInt = 39 := rfl
    have n_8 : ((2 : Int32)).toInt = 2 := rfl
    try have a_9 : (((2 : Int32) * x1)).toInt = 2 * (x1).toInt := i_mulc (by omega) (by omega) (by omega)
    try have a_10 : (((39 : Int32) + ((2 : Int32) * x1))).toInt = ((39 : Int32)).toInt + (((2 : Int32) * x1)).toInt := i_add (by omega) (by omega)
    try have a_11 : ((((39 : Int32) + ((2 : Int32) * x1)) + x2)).toInt = (((39 : Int32) + ((2 : Int32) * x1))).toInt + (x2).toInt := i_add (by omega) (by omega)
    refine Sf.k (ok_in (by omega) (by omega)) ?_
    have b_12 : (0 : Int) ≤ (rd M6 (135 + 1) (((((39 : Int32) + ((2 : Int32) * x1)) + x2)).toNatClampNeg)).toInt ∧ (rd M6 (135 + 1) (((((39 : Int32) + ((2 : Int32) * x1)) + x2)).toNatClampNeg)).toInt ≤ 9999 := h_M6.ri 39 48 (by decide +kernel) (by omega) (by omega)
    have z_13 : (0 : Int) ≤ ((rd M6 (135 + 1) (((((39 : Int32) + ((2 : Int32) * x1)) + x2)).toNatClampNeg))).toInt ∧ ((rd M6 (135 + 1) (((((39 : Int32) + ((2 : Int32) * x1)) + x2)).toNatClampNeg))).toInt ≤ 9999 := ⟨by omega, by omega⟩
    exact Sf.ok ⟨h_M6, z_13⟩
set_option maxHeartbeats 2000000 in
theorem sX7_isMirrored_b45 {g : Gm} {M : Mem} {ih5 : Int32 → Int32 → Int32 → Int32 → Option Int32} {x1 : Int32} {x2 : Int32} {x4 : Int32} {y0 : Int32} {d5 : Nat} (h_M : OKm g M) (hx1 : (2 : Int) ≤ (x1).toInt ∧ (x1).toInt ≤ 11) (hx2 : (1 : Int) ≤ (x2).toInt ∧ (x2).toInt ≤ 9) (hx4 : (0 : Int) ≤ (x4).toInt ∧ (x4).toInt ≤ 8) (hy0 : (0 : Int) ≤ (y0).toInt ∧ (y0).toInt ≤ 1) (hih5 : ∀ (yx1 : Int32) (yx2 : Int32) (yx3 : Int32) (yx4 : Int32), ((2 : Int) ≤ (yx1).toInt ∧ (yx1).toInt ≤ 11) → ((0 : Int) ≤ (yx2).toInt ∧ (yx2).toInt ≤ 9) → ((0 : Int) ≤ (yx3).toInt ∧ (yx3).toInt ≤ 1) → ((0 : Int) ≤ (yx4).toInt ∧ (yx4).toInt ≤ 9) → 9 - (yx4).toInt < d5 → Sf (ih5 yx1 yx2 yx3 yx4) (pI (0) (1))) (hmu5 : 9 - (x4).toInt ≤ d5) : Sf (mX7_isMirrored_b45 135 M ih5 x1 x2 x4 y0) (pI (0) (1)) := by
  unfold mX7_isMirrored_b45
  have n_1 : ((1 : Int32)).toInt = 1 := rfl
  try have a_2 : ((x4 + (1 : Int32))).toInt = (x4).toInt + ((1 : Int32)).toInt := i_add (by omega) (by omega)
  refine Sf.b (fun x4_46 e_x4_46 => ?_)
  have d_x4_46 := congrArg Int32.toInt e_x4_46
  exact (hih5 _ _ _ _ ⟨by omega, by omega⟩ ⟨by omega, by omega⟩ ⟨by omega, by omega⟩ ⟨by omega, by omega⟩ (by omega))
set_option maxHeartbeats 2000000 in
theorem sX7_isMirrored_b44 {g : Gm} {M : Mem} {ih5 : Int32 → Int32 → Int32 → Int32 → Option Int32} {x1 : Int32} {x2 : Int32} {x4 : Int32} {d5 : Nat} (h_M : OKm g M) (hx1 : (2 : Int) ≤ (x1).toInt ∧ (x1).toInt ≤ 11) (hx2 : (1 : Int) ≤ (x2).toInt ∧ (x2).toInt ≤ 9) (hx4 : (0 : Int) ≤ (x4).toInt ∧ (x4).toInt ≤ 8) (hih5 : ∀ (yx1 : Int32) (yx2 : Int32) (yx3 : Int32) (yx4 : Int32), ((2 : Int) ≤ (yx1).toInt ∧ (yx1).toInt ≤ 11) → ((0 : Int) ≤ (yx2).toInt ∧ (yx2).toInt ≤ 9) → ((0 : Int) ≤ (yx3).toInt ∧ (yx3).toInt ≤ 1) → ((0 : Int) ≤ (yx4).toInt ∧ (yx4).toInt ≤ 9) → 9 - (yx4).toInt < d5 → Sf (ih5 yx1 yx2 yx3 yx4) (pI (0) (1))) (hmu5 : 9 - (x4).toInt ≤ d5) : Sf (mX7_isMirrored_b44 135 M ih5 x1 x2 x4) (pI (0) (1)) := by
  unfold mX7_isMirrored_b44
  have n_1 : ((0 : Int32)).toInt = 0 := rfl
  exact (sX7_isMirrored_b45 h_M ⟨by omega, by omega⟩ ⟨by omega, by omega⟩ ⟨by omega, by omega⟩ ⟨by omega, by omega⟩ hih5 (by omega))
set_option maxHeartbeats 2000000 in
theorem sX7_isMirrored_b5 {g : Gm} {M : Mem} {ih5 : Int32 → Int32 → Int32 → Int32 → Option Int32} {x1 : Int32} {x2 : Int32} {x3 : Int32} {x4 : Int32} {d5 : Nat} (h_M : OKm g M) (hx1 : (2 : Int) ≤ (x1).toInt ∧ (x1).toInt ≤ 11) (hx2 : (0 : Int) ≤ (x2).toInt ∧ (x2).toInt ≤ 9) (hx3 : (0 : Int) ≤ (x3).toInt ∧ (x3).toInt ≤ 1) (hx4 : (0 : Int) ≤ (x4).toInt ∧ (x4).toInt ≤ 9) (hih5 : ∀ (yx1 : Int32) (yx2 : Int32) (yx3 : Int32) (yx4 : Int32), ((2 : Int) ≤ (yx1).toInt ∧ (yx1).toInt ≤ 11) → ((0 : Int) ≤ (yx2).toInt ∧ (yx2).toInt ≤ 9) → ((0 : Int) ≤ (yx3).toInt ∧ (yx3).toInt ≤ 1) → ((0 : Int) ≤ (yx4).toInt ∧ (yx4).toInt ≤ 9) → 9 - (yx4).toInt < d5 → Sf (ih5 yx1 yx2 yx3 yx4) (pI (0) (1))) (hmu5 : 9 - (x4).toInt ≤ d5) : Sf (mX7_isMirrored_b5 135 M ih5 x1 x2 x3 x4) (pI (0) (1)) := by
  unfold mX7_isMirrored_b5
  refine Sf.i (fun c_1 => ?_) (fun c_1 => ?_)
  · have c_1 := i_le.mp c_1
    refine Sf.k (isB_in ⟨by omega, by omega⟩) ?_
    have z_2 : (0 : Int) ≤ (x3).toInt ∧ (x3).toInt ≤ 1 := ⟨by omega, by omega⟩
    exact Sf.ok z_2
  · have c_1 := i_nle c_1
    have n_3 : ((0 : Int32)).toInt = 0 := rfl
    refine Sf.i (fun c_4 => ?_) (fun c_4 => ?_)
    · have c_4 := i_eq.mp c_4
      exact (sX7_isMirrored_b44 h_M ⟨by omega, by omega⟩ ⟨by omega, by omega⟩ ⟨by omega, by omega⟩ hih5 (by omega))
    · have c_4 := i_ne c_4
      try have a_5 : ((x1 + x4)).toInt = (x1).toInt + (x4).toInt := i_add (by omega) (by omega)
      refine Sf.k (ok_in (by omega) (by omega)) ?_
      try have a_6 : ((x1 + x2)).toInt = (x1).toInt + (x2).toInt := i_add (by omega) (by omega)
      have n_7 : ((1 : Int32)).toInt = 1 := rfl
      try have a_8 : (((x1 + x2) - (1 : Int32))).toInt = ((x1 + x2)).toInt - ((1 : Int32)).toInt := i_sub (by omega) (by omega)
      try have a_9 : ((((x1 + x2) - (1 : Int32)) - x4)).toInt = (((x1 + x2) - (1 : Int32))).toInt - (x4).toInt := i_sub (by omega) (by omega)
      refine Sf.k (ok_in (by omega) (by omega)) ?_
      have b_10 : (0 : Int) ≤ (rd M (135 + 1) (((x1 + x4)).toNatClampNeg)).toInt ∧ (rd M (135 + 1) (((x1 + x4)).toNatClampNeg)).toInt ≤ 9999 := h_M.ri 2 19 (by decide +kernel) (by omega) (by omega)
      have b_11 : (0 : Int) ≤ (rd M (135 + 1) (((((x1 + x2) - (1 : Int32)) - x4)).toNatClampNeg)).toInt ∧ (rd M (135 + 1) (((((x1 + x2) - (1 : Int32)) - x4)).toNatClampNeg)).toInt ≤ 9999 := h_M.ri 0 19 (by decide +kernel) (by omega) (by omega)
      refine Sf.i (fun c_12 => ?_) (fun c_12 => ?_)
      · have c_12 := i_eq.mp c_12
        exact (sX7_isMirrored_b45 h_M ⟨by omega, by omega⟩ ⟨by omega, by omega⟩ ⟨by omega, by omega⟩ ⟨by omega, by omega⟩ hih5 (by omega))
      · have c_12 := i_ne c_12
        exact (sX7_isMirrored_b44 h_M ⟨by omega, by omega⟩ ⟨by omega, by omega⟩ ⟨by omega, by omega⟩ hih5 (by omega))
theorem sX7_isMirrored_l5_n {g : Gm}  {M : Mem}  (h_M : OKm g M)   : ∀ (n : Nat) (x1 : Int32) (x2 : Int32) (x3 : Int32) (x4 : Int32) (hx1 : (2 : Int) ≤ (x1).toInt ∧ (x1).toInt ≤ 11) (hx2 : (0 : Int) ≤ (x2).toInt ∧ (x2).toInt ≤ 9) (hx3 : (0 : Int) ≤ (x3).toInt ∧ (x3).toInt ≤ 1) (hx4 : (0 : Int) ≤ (x4).toInt ∧ (x4).toInt ≤ 9)   (hmu : 9 - (x4).toInt < n), Sf (mX7_isMirrored_l5 135 M n x1 x2 x3 x4) (pI (0) (1)) := by
  intro n
  induction n with
  | zero => intro x1 x2 x3 x4 hx1 hx2 hx3 hx4 hmu; exfalso; omega
  | succ n IH => intro x1 x2 x3 x4 hx1 hx2 hx3 hx4 hmu; exact sX7_isMirrored_b5  h_M hx1 hx2 hx3 hx4    IH (by omega)
theorem sX7_isMirrored_l5 {g : Gm}  {M : Mem} {x1 : Int32} {x2 : Int32} {x3 : Int32} {x4 : Int32}  (h_M : OKm g M) (hx1 : (2 : Int) ≤ (x1).toInt ∧ (x1).toInt ≤ 11) (hx2 : (0 : Int) ≤ (x2).toInt ∧ (x2).toInt ≤ 9) (hx3 : (0 : Int) ≤ (x3).toInt ∧ (x3).toInt ≤ 1) (hx4 : (0 : Int) ≤ (x4).toInt ∧ (x4).toInt ≤ 9)    (hmu : 9 - (x4).toInt < 5000) : Sf (mX7_isMirrored_l5 135 M 5000 x1 x2 x3 x4) (pI (0) (1)) :=
  sX7_isMirrored_l5_n  h_M   5000 _ _ _ _ hx1 hx2 hx3 hx4   hmu
set_option maxHeartbeats 2000000 in
theorem sX7_isMirrored {g : Gm} {x1 : Int32} {x2 : Int32} {M : Mem} (h_M : OKm g M) (hx1 : (2 : Int) ≤ (x1).toInt ∧ (x1).toInt ≤ 11) (hx2 : (0 : Int) ≤ (x2).toInt ∧ (x2).toInt ≤ 9) : Sf (mX7_isMirrored 135 x1 x2 M) (pI (0) (1)) := by
  unfold mX7_isMirrored
  have n_1 : ((1 : Int32)).toInt = 1 := rfl
  have n_2 : ((0 : Int32)).toInt = 0 := rfl
  exact (sX7_isMirrored_l5 h_M ⟨by omega, by omega⟩ ⟨by omega, by omega⟩ ⟨by omega, by omega⟩ ⟨by omega, by omega⟩ (by omega))
set_option maxHeartbeats 2000000 in
theorem sX7_isSymmetric {g : Gm} {M : Mem} (h_M : OKm g M) : Sf (mX7_isSymmetric 135 M) (qMI g (0) (1)) := by
  unfold mX7_isSymmetric
  refine Sf.b (fun M1 e_M1 => ?_)
  have h_M1 : OKm g M1 := by rw [e_M1]; exact h_M.put rfl (i_rng _)
  have n_1 : ((1 : Int32)).toInt = 1 := rfl
  refine Sf.k (ok_in (by omega) (by omega)) ?_
  have n_2 : ((2 : Int32)).toInt = 2 := rfl
  have b_3 : (0 : Int) ≤ (rd M1 (135 + 1) (((1 : Int32)).toNatClampNeg)).toInt ∧ (rd M1 (135 + 1) (((1 : Int32)).toNatClampNeg)).toInt ≤ 9 := h_M1.ri 1 1 (by decide +kernel) (by omega) (by omega)
  refine Sf.c (sX7_isMirrored h_M1 ⟨by omega, by omega⟩ ⟨by omega, by omega⟩) (fun r5 p_4 => ?_)
  obtain ⟨p_4a, p_4b⟩ := p_4
  have n_5 : ((0 : Int32)).toInt = 0 := rfl
  refine Sf.i (fun c_6 => ?_) (fun c_6 => ?_)
  · have c_6 := i_eq.mp c_6
    have n_7 : ((0 : Int32)).toInt = 0 := rfl
    have z_8 : (0 : Int) ≤ ((0 : Int32)).toInt ∧ ((0 : Int32)).toInt ≤ 1 := ⟨by omega, by omega⟩
    exact Sf.ok ⟨h_M1, z_8⟩
  · have c_6 := i_ne c_6
    have n_9 : ((0 : Int32)).toInt = 0 := rfl
    refine Sf.k (ok_in (by omega) (by omega)) ?_
    have n_10 : ((11 : Int32)).toInt = 11 := rfl
    have b_11 : (0 : Int) ≤ (rd M1 (135 + 1) (((0 : Int32)).toNatClampNeg)).toInt ∧ (rd M1 (135 + 1) (((0 : Int32)).toNatClampNeg)).toInt ≤ 8 := h_M1.ri 0 0 (by decide +kernel) (by omega) (by omega)
    refine Sf.c (sX7_isMirrored h_M1 ⟨by omega, by omega⟩ ⟨by omega, by omega⟩) (fun r10 p_12 => ?_)
    obtain ⟨p_12a, p_12b⟩ := p_12
    refine Sf.i (fun c_13 => ?_) (fun c_13 => ?_)
    · have c_13 := i_eq.mp c_13
      have z_14 : (0 : Int) ≤ ((0 : Int32)).toInt ∧ ((0 : Int32)).toInt ≤ 1 := ⟨by omega, by omega⟩
      exact Sf.ok ⟨h_M1, z_14⟩
    · have c_13 := i_ne c_13
      have z_15 : (0 : Int) ≤ ((1 : Int32)).toInt ∧ ((1 : Int32)).toInt ≤ 1 := ⟨by omega, by omega⟩
      exact Sf.ok ⟨h_M1, z_15⟩
set_option maxHeartbeats 2000000 in
theorem sX7_longestLeg_b48 {g : Gm} {ih9 : Int32 → Int32 → Mem → Option (Mem × Int32)} {x2 : Int32} {y0 : Int32} {M : Mem} {d9 : Nat} (h_M : OKm g M) (hx2 : (0 : Int) ≤ (x2).toInt ∧ (x2).toInt ≤ 8) (hy0 : (0 : Int) ≤ (y0).toInt ∧ (y0).toInt ≤ 8) (he0 : (1 : Int) ≤ (rd M (135 + 1) ((((1 : Int32)).toNatClampNeg))).toInt ∧ (rd M (135 + 1) ((((1 : Int32)).toNatClampNeg))).toInt ≤ 9) (hih9 : ∀ (yx1 : Int32) (yx2 : Int32) (M : Mem), OKm g M → ((-1 : Int) ≤ (yx1).toInt ∧ (yx1).toInt ≤ 8) → ((0 : Int) ≤ (yx2).toInt ∧ (yx2).toInt ≤ 9) → 9 - (yx2).toInt < d9 → Sf (ih9 yx1 yx2 M) (qMI g (-1) (8))) (hmu9 : 9 - (x2).toInt ≤ d9) : Sf (mX7_longestLeg_b48 135 ih9 x2 y0 M) (qMI g (-1) (8)) := by
  unfold mX7_longestLeg_b48
  have n_1 : ((1 : Int32)).toInt = 1 := rfl
  try have a_2 : ((x2 + (1 : Int32))).toInt = (x2).toInt + ((1 : Int32)).toInt := i_add (by omega) (by omega)
  refine Sf.b (fun x2_49 e_x2_49 => ?_)
  have d_x2_49 := congrArg Int32.toInt e_x2_49
  exact (hih9 _ _ _ h_M ⟨by omega, by omega⟩ ⟨by omega, by omega⟩ (by omega))
set_option maxHeartbeats 2000000 in
theorem sX7_longestLeg_b43 {g : Gm} {ih9 : Int32 → Int32 → Mem → Option (Mem × Int32)} {x2 : Int32} {M : Mem} {d9 : Nat} (h_M : OKm g M) (hx2 : (0 : Int) ≤ (x2).toInt ∧ (x2).toInt ≤ 8) (he0 : (1 : Int) ≤ (rd M (135 + 1) ((((1 : Int32)).toNatClampNeg))).toInt ∧ (rd M (135 + 1) ((((1 : Int32)).toNatClampNeg))).toInt ≤ 9) (hih9 : ∀ (yx1 : Int32) (yx2 : Int32) (M : Mem), OKm g M → ((-1 : Int) ≤ (yx1).toInt ∧ (yx1).toInt ≤ 8) → ((0 : Int) ≤ (yx2).toInt ∧ (yx2).toInt ≤ 9) → 9 - (yx2).toInt < d9 → Sf (ih9 yx1 yx2 M) (qMI g (-1) (8))) (hmu9 : 9 - (x2).toInt ≤ d9) : Sf (mX7_longestLeg_b43 135 ih9 x2 M) (qMI g (-1) (8)) := by
  unfold mX7_longestLeg_b43
  have n_2 : ((1 : Int32)).toInt = 1 := rfl
  have b_1 : (0 : Int) ≤ (rd M (135 + 1) (((1 : Int32)).toNatClampNeg)).toInt ∧ (rd M (135 + 1) (((1 : Int32)).toNatClampNeg)).toInt ≤ 9 := h_M.ri 1 1 (by decide +kernel) (by omega) (by omega)
  exact (sX7_longestLeg_b48 h_M ⟨by omega, by omega⟩ ⟨by omega, by omega⟩ ⟨by omega, by omega⟩ hih9 (by omega))
set_option maxHeartbeats 2000000 in
theorem sX7_longestLeg_b9 {g : Gm} {ih9 : Int32 → Int32 → Mem → Option (Mem × Int32)} {x1 : Int32} {x2 : Int32} {M : Mem} {d9 : Nat} (h_M : OKm g M) (hx1 : (-1 : Int) ≤ (x1).toInt ∧ (x1).toInt ≤ 8) (hx2 : (0 : Int) ≤ (x2).toInt ∧ (x2).toInt ≤ 9) (hih9 : ∀ (yx1 : Int32) (yx2 : Int32) (M : Mem), OKm g M → ((-1 : Int) ≤ (yx1).toInt ∧ (yx1).toInt ≤ 8) → ((0 : Int) ≤ (yx2).toInt ∧ (yx2).toInt ≤ 9) → 9 - (yx2).toInt < d9 → Sf (ih9 yx1 yx2 M) (qMI g (-1) (8))) (hmu9 : 9 - (x2).toInt ≤ d9) : Sf (mX7_longestLeg_b9 135 ih9 x1 x2 M) (qMI g (-1) (8)) := by
  unfold mX7_longestLeg_b9
  have n_1 : ((1 : Int32)).toInt = 1 := rfl
  refine Sf.k (ok_in (by omega) (by omega)) ?_
  have b_2 : (0 : Int) ≤ (rd M (135 + 1) (((1 : Int32)).toNatClampNeg)).toInt ∧ (rd M (135 + 1) (((1 : Int32)).toNatClampNeg)).toInt ≤ 9 := h_M.ri 1 1 (by decide +kernel) (by omega) (by omega)
  refine Sf.i (fun c_3 => ?_) (fun c_3 => ?_)
  · have c_3 := i_le.mp c_3
    have z_4 : (-1 : Int) ≤ (x1).toInt ∧ (x1).toInt ≤ 8 := ⟨by omega, by omega⟩
    exact Sf.ok ⟨h_M, z_4⟩
  · have c_3 := i_nle c_3
    have n_5 : (((-1) : Int32)).toInt = -1 := rfl
    refine Sf.i (fun c_6 => ?_) (fun c_6 => ?_)
    · have c_6 := i_eq.mp c_6
      exact (sX7_longestLeg_b43 h_M ⟨by omega, by omega⟩ ⟨by omega, by omega⟩ hih9 (by omega))
    · have c_6 := i_ne c_6
      have n_7 : ((2 : Int32)).toInt = 2 := rfl
      try have a_8 : (((2 : Int32) + x2)).toInt = ((2 : Int32)).toInt + (x2).toInt := i_add (by omega) (by omega)
      refine Sf.k (ok_in (by omega) (by omega)) ?_
      try have a_9 : (((2 : Int32) + x1)).toInt = ((2 : Int32)).toInt + (x1).toInt := i_add (by omega) (by omega)
      refine Sf.k (ok_in (by omega) (by omega)) ?_
      have b_10 : (0 : Int) ≤ (rd M (135 + 1) ((((2 : Int32) + x2)).toNatClampNeg)).toInt ∧ (rd M (135 + 1) ((((2 : Int32) + x2)).toNatClampNeg)).toInt ≤ 9999 := h_M.ri 2 10 (by decide +kernel) (by omega) (by omega)
      have b_11 : (0 : Int) ≤ (rd M (135 + 1) ((((2 : Int32) + x1)).toNatClampNeg)).toInt ∧ (rd M (135 + 1) ((((2 : Int32) + x1)).toNatClampNeg)).toInt ≤ 9999 := h_M.ri 2 10 (by decide +kernel) (by omega) (by omega)
      refine Sf.i (fun c_12 => ?_) (fun c_12 => ?_)
      · have c_12 := i_le.mp c_12
        exact (sX7_longestLeg_b48 h_M ⟨by omega, by omega⟩ ⟨by omega, by omega⟩ ⟨by omega, by omega⟩ hih9 (by omega))
      · have c_12 := i_nle c_12
        exact (sX7_longestLeg_b43 h_M ⟨by omega, by omega⟩ ⟨by omega, by omega⟩ hih9 (by omega))
theorem sX7_longestLeg_l9_n {g : Gm}    : ∀ (n : Nat) (x1 : Int32) (x2 : Int32) (M : Mem) (h_M : OKm g M) (hx1 : (-1 : Int) ≤ (x1).toInt ∧ (x1).toInt ≤ 8) (hx2 : (0 : Int) ≤ (x2).toInt ∧ (x2).toInt ≤ 9)    (hmu : 9 - (x2).toInt < n), Sf (mX7_longestLeg_l9 135 n x1 x2 M) (qMI g (-1) (8)) := by
  intro n
  induction n with
  | zero => intro x1 x2 M h_M hx1 hx2 hmu; exfalso; omega
  | succ n IH => intro x1 x2 M h_M hx1 hx2 hmu; exact sX7_longestLeg_b9  h_M hx1 hx2    IH (by omega)
theorem sX7_longestLeg_l9 {g : Gm}  {x1 : Int32} {x2 : Int32} {M : Mem}  (h_M : OKm g M) (hx1 : (-1 : Int) ≤ (x1).toInt ∧ (x1).toInt ≤ 8) (hx2 : (0 : Int) ≤ (x2).toInt ∧ (x2).toInt ≤ 9)    (hmu : 9 - (x2).toInt < 5000) : Sf (mX7_longestLeg_l9 135 5000 x1 x2 M) (qMI g (-1) (8)) :=
  sX7_longestLeg_l9_n   5000 _ _ M h_M hx1 hx2    hmu
set_option maxHeartbeats 2000000 in
theorem sX7_longestLeg {g : Gm} {M : Mem} (h_M : OKm g M) : Sf (mX7_longestLeg 135 M) (qMI g (-1) (8)) := by
  unfold mX7_longestLeg
  refine Sf.b (fun M1 e_M1 => ?_)
  have h_M1 : OKm g M1 := by rw [e_M1]; exact h_M.put rfl (i_rng _)
  have n_1 : (((-1) : Int32)).toInt = -1 := rfl
  have n_2 : ((0 : Int32)).toInt = 0 := rfl
  exact (sX7_longestLeg_l9 h_M1 ⟨by omega, by omega⟩ ⟨by omega, by omega⟩ (by omega))
set_option maxHeartbeats 2000000 in
theorem sX7_acrossOf {g : Gm} {x0 : Int32} {M : Mem} (h_M : OKm g M) (hx0 : (0 : Int) ≤ (x0).toInt ∧ (x0).toInt ≤ 3) : Sf (mX7_acrossOf x0 M) (pI (-1) (1)) := by
  unfold mX7_acrossOf
  have n_1 : ((1 : Int32)).toInt = 1 := rfl
  refine Sf.i (fun c_2 => ?_) (fun c_2 => ?_)
  · have c_2 := i_eq.mp c_2
    have z_3 : (-1 : Int) ≤ ((1 : Int32)).toInt ∧ ((1 : Int32)).toInt ≤ 1 := ⟨by omega, by omega⟩
    exact Sf.ok z_3
  · have c_2 := i_ne c_2
    have n_4 : ((3 : Int32)).toInt = 3 := rfl
    refine Sf.i (fun c_5 => ?_) (fun c_5 => ?_)
    · have c_5 := i_eq.mp c_5
      have n_6 : (((-1) : Int32)).toInt = -1 := rfl
      have z_7 : (-1 : Int) ≤ (((-1) : Int32)).toInt ∧ (((-1) : Int32)).toInt ≤ 1 := ⟨by omega, by omega⟩
      exact Sf.ok z_7
    · have c_5 := i_ne c_5
      have n_8 : ((0 : Int32)).toInt = 0 := rfl
      have z_9 : (-1 : Int) ≤ ((0 : Int32)).toInt ∧ ((0 : Int32)).toInt ≤ 1 := ⟨by omega, by omega⟩
      exact Sf.ok z_9
set_option maxHeartbeats 2000000 in
theorem sX7_upOf {g : Gm} {x0 : Int32} {M : Mem} (h_M : OKm g M) (hx0 : (0 : Int) ≤ (x0).toInt ∧ (x0).toInt ≤ 3) : Sf (mX7_upOf x0 M) (pI (-1) (1)) := by
  unfold mX7_upOf
  have n_1 : ((0 : Int32)).toInt = 0 := rfl
  refine Sf.i (fun c_2 => ?_) (fun c_2 => ?_)
  · have c_2 := i_eq.mp c_2
    have n_3 : ((1 : Int32)).toInt = 1 := rfl
    have z_4 : (-1 : Int) ≤ ((1 : Int32)).toInt ∧ ((1 : Int32)).toInt ≤ 1 := ⟨by omega, by omega⟩
    exact Sf.ok z_4
  · have c_2 := i_ne c_2
    have n_5 : ((2 : Int32)).toInt = 2 := rfl
    refine Sf.i (fun c_6 => ?_) (fun c_6 => ?_)
    · have c_6 := i_eq.mp c_6
      have n_7 : (((-1) : Int32)).toInt = -1 := rfl
      have z_8 : (-1 : Int) ≤ (((-1) : Int32)).toInt ∧ (((-1) : Int32)).toInt ≤ 1 := ⟨by omega, by omega⟩
      exact Sf.ok z_8
    · have c_6 := i_ne c_6
      have z_9 : (-1 : Int) ≤ ((0 : Int32)).toInt ∧ ((0 : Int32)).toInt ≤ 1 := ⟨by omega, by omega⟩
      exact Sf.ok z_9
set_option maxHeartbeats 2000000 in
theorem sX7_layLeg {g : Gm} {x1 : Int32} {x2 : Int32} {M : Mem} (h_M : OKm g M) (hx1 : (0 : Int) ≤ (x1).toInt ∧ (x1).toInt ≤ 8) (hx2 : (0 : Int) ≤ (x2).toInt ∧ (x2).toInt ≤ 3) : Sf (mX7_layLeg 135 x1 x2 M) (qM g) := by
  unfold mX7_layLeg
  refine Sf.k (ok_in (by omega) (by omega)) ?_
  refine Sf.b (fun M3 e_M3 => ?_)
  have h_M3 : OKm g M3 := by rw [e_M3]; exact h_M.put rfl (i_rng _)
  refine Sf.k (ok_in (by omega) (by omega)) ?_
  refine Sf.b (fun M6 e_M6 => ?_)
  have h_M6 : OKm g M6 := by rw [e_M6]; exact h_M3.put rfl (i_rng _)
  refine Sf.c (sX7_acrossOf h_M6 ⟨by omega, by omega⟩) (fun r8 p_1 => ?_)
  obtain ⟨p_1a, p_1b⟩ := p_1
  have n_2 : ((2 : Int32)).toInt = 2 := rfl
  try have a_3 : (((2 : Int32) + x1)).toInt = ((2 : Int32)).toInt + (x1).toInt := i_add (by omega) (by omega)
  refine Sf.k (ok_in (by omega) (by omega)) ?_
  refine Sf.b (fun M11 e_M11 => ?_)
  have h_M11 : OKm g M11 := by rw [e_M11]; exact h_M6.put rfl (i_rng _)
  refine Sf.c (sX7_upOf h_M11 ⟨by omega, by omega⟩) (fun r14 p_4 => ?_)
  obtain ⟨p_4a, p_4b⟩ := p_4
  refine Sf.k (ok_in (by omega) (by omega)) ?_
  refine Sf.b (fun M17 e_M17 => ?_)
  have h_M17 : OKm g M17 := by rw [e_M17]; exact h_M11.put rfl (i_rng _)
  refine Sf.k (ok_in (by omega) (by omega)) ?_
  refine Sf.b (fun M21 e_M21 => ?_)
  have h_M21 : OKm g M21 := by rw [e_M21]; exact h_M17.put rfl (i_rng _)
  refine Sf.k (ok_in (by omega) (by omega)) ?_
  refine Sf.b (fun M24 e_M24 => ?_)
  have h_M24 : OKm g M24 := by rw [e_M24]; exact h_M21.put rfl (i_rng _)
  exact Sf.ok h_M24
set_option maxHeartbeats 2000000 in
theorem sX7_isClamped {g : Gm} {x1 : Int32} {x2 : Int32} {x3 : Int32} {M : Mem} (h_M : OKm g M) (hx1 : (0 : Int) ≤ (x1).toInt ∧ (x1).toInt ≤ 8) (hx2 : (0 : Int) ≤ (x2).toInt ∧ (x2).toInt ≤ 7) (hx3 : (0 : Int) ≤ (x3).toInt ∧ (x3).toInt ≤ 1) : Sf (mX7_isClamped 135 x1 x2 x3 M) (pI (0) (1)) := by
  unfold mX7_isClamped
  have n_1 : ((0 : Int32)).toInt = 0 := rfl
  refine Sf.i (fun c_2 => ?_) (fun c_2 => ?_)
  · have c_2 := i_eq.mp c_2
    refine Sf.i (fun c_3 => ?_) (fun c_3 => ?_)
    · have c_3 := i_lt.mp c_3
      have n_4 : ((0 : Int32)).toInt = 0 := rfl
      have z_5 : (0 : Int) ≤ ((0 : Int32)).toInt ∧ ((0 : Int32)).toInt ≤ 1 := ⟨by omega, by omega⟩
      exact Sf.ok z_5
    · have c_3 := i_nlt c_3
      have n_6 : ((1 : Int32)).toInt = 1 := rfl
      have z_7 : (0 : Int) ≤ ((1 : Int32)).toInt ∧ ((1 : Int32)).toInt ≤ 1 := ⟨by omega, by omega⟩
      exact Sf.ok z_7
  · have c_2 := i_ne c_2
    refine Sf.i (fun c_8 => ?_) (fun c_8 => ?_)
    · have c_8 := i_le.mp c_8
      have n_9 : ((0 : Int32)).toInt = 0 := rfl
      have z_10 : (0 : Int) ≤ ((0 : Int32)).toInt ∧ ((0 : Int32)).toInt ≤ 1 := ⟨by omega, by omega⟩
      exact Sf.ok z_10
    · have c_8 := i_nle c_8
      have n_11 : ((1 : Int32)).toInt = 1 := rfl
      have z_12 : (0 : Int) ≤ ((1 : Int32)).toInt ∧ ((1 : Int32)).toInt ≤ 1 := ⟨by omega, by omega⟩
      exact Sf.ok z_12
set_option maxHeartbeats 2000000 in
theorem sX7_laySide_b136 {g : Gm} {ih16 : Int32 → Int32 → Int32 → Int32 → Int32 → Int32 → Mem → Option (Mem × Unit)} {x2 : Int32} {x4 : Int32} {x5 : Int32} {x6 : Int32} {x7 : Int32} {x8 : Int32} {M : Mem} {d16 : Nat} (h_M : OKm g M) (hx2 : (-1 : Int) ≤ (x2).toInt ∧ (x2).toInt ≤ 1) (hx4 : (1 : Int) ≤ (x4).toInt ∧ (x4).toInt ≤ 3) (hx5 : (0 : Int) ≤ (x5).toInt ∧ (x5).toInt ≤ 1) (hx6 : (0 : Int) ≤ (x6).toInt ∧ (x6).toInt ≤ 255) (hx7 : (0 : Int) ≤ (x7).toInt ∧ (x7).toInt ≤ 3) (hx8 : (0 : Int) ≤ (x8).toInt ∧ (x8).toInt ≤ 8) (hr0 : ((x2).toInt = 1 ∨ (x2).toInt = -1)) (hih16 : ∀ (yx2 : Int32) (yx4 : Int32) (yx5 : Int32) (yx6 : Int32) (yx7 : Int32) (yx8 : Int32) (M : Mem), OKm g M → ((-1 : Int) ≤ (yx2).toInt ∧ (yx2).toInt ≤ 1) → ((1 : Int) ≤ (yx4).toInt ∧ (yx4).toInt ≤ 3) → ((0 : Int) ≤ (yx5).toInt ∧ (yx5).toInt ≤ 1) → ((0 : Int) ≤ (yx6).toInt ∧ (yx6).toInt ≤ 255) → ((0 : Int) ≤ (yx7).toInt ∧ (yx7).toInt ≤ 3) → ((-1 : Int) ≤ (yx8).toInt ∧ (yx8).toInt ≤ 9) → (((yx2).toInt = 1 ∨ (yx2).toInt = -1)) → (if (yx2).toInt = 1 then 10 - (yx8).toInt else (yx8).toInt + 2) < d16 → Sf (ih16 yx2 yx4 yx5 yx6 yx7 yx8 M) (qM g)) (hmu16 : (if (x2).toInt = 1 then 10 - (x8).toInt else (x8).toInt + 2) ≤ d16) : Sf (mX7_laySide_b136 135 ih16 x2 x4 x5 x6 x7 x8 M) (qM g) := by
  unfold mX7_laySide_b136
  try have a_1 : ((x8 + x2)).toInt = (x8).toInt + (x2).toInt := i_add (by omega) (by omega)
  refine Sf.b (fun x8_140 e_x8_140 => ?_)
  have d_x8_140 := congrArg Int32.toInt e_x8_140
  exact (hih16 _ _ _ _ _ _ _ h_M ⟨by omega, by omega⟩ ⟨by omega, by omega⟩ ⟨by omega, by omega⟩ ⟨by omega, by omega⟩ ⟨by omega, by omega⟩ ⟨by omega, by omega⟩ (by omega) (by omega))
set_option maxHeartbeats 2000000 in
theorem sX7_laySide_b131 {g : Gm} {ih16 : Int32 → Int32 → Int32 → Int32 → Int32 → Int32 → Mem → Option (Mem × Unit)} {x2 : Int32} {x4 : Int32} {x5 : Int32} {x6 : Int32} {x8 : Int32} {y0 : Int32} {y1 : Int32} {M : Mem} {d16 : Nat} (h_M : OKm g M) (hx2 : (-1 : Int) ≤ (x2).toInt ∧ (x2).toInt ≤ 1) (hx4 : (1 : Int) ≤ (x4).toInt ∧ (x4).toInt ≤ 3) (hx5 : (0 : Int) ≤ (x5).toInt ∧ (x5).toInt ≤ 1) (hx6 : (0 : Int) ≤ (x6).toInt ∧ (x6).toInt ≤ 255) (hx8 : (0 : Int) ≤ (x8).toInt ∧ (x8).toInt ≤ 8) (hy0 : (0 : Int) ≤ (y0).toInt ∧ (y0).toInt ≤ 3) (hy1 : (1 : Int) ≤ (y1).toInt ∧ (y1).toInt ≤ 3) (he0 : (1 : Int) ≤ (rd M (135 + 1) ((((0 : Int32)).toNatClampNeg))).toInt ∧ (rd M (135 + 1) ((((0 : Int32)).toNatClampNeg))).toInt ≤ 8) (hr0 : ((x2).toInt = 1 ∨ (x2).toInt = -1)) (hih16 : ∀ (yx2 : Int32) (yx4 : Int32) (yx5 : Int32) (yx6 : Int32) (yx7 : Int32) (yx8 : Int32) (M : Mem), OKm g M → ((-1 : Int) ≤ (yx2).toInt ∧ (yx2).toInt ≤ 1) → ((1 : Int) ≤ (yx4).toInt ∧ (yx4).toInt ≤ 3) → ((0 : Int) ≤ (yx5).toInt ∧ (yx5).toInt ≤ 1) → ((0 : Int) ≤ (yx6).toInt ∧ (yx6).toInt ≤ 255) → ((0 : Int) ≤ (yx7).toInt ∧ (yx7).toInt ≤ 3) → ((-1 : Int) ≤ (yx8).toInt ∧ (yx8).toInt ≤ 9) → (((yx2).toInt = 1 ∨ (yx2).toInt = -1)) → (if (yx2).toInt = 1 then 10 - (yx8).toInt else (yx8).toInt + 2) < d16 → Sf (ih16 yx2 yx4 yx5 yx6 yx7 yx8 M) (qM g)) (hmu16 : (if (x2).toInt = 1 then 10 - (x8).toInt else (x8).toInt + 2) ≤ d16) : Sf (mX7_laySide_b131 135 ih16 x2 x4 x5 x6 x8 y0 y1 M) (qM g) := by
  unfold mX7_laySide_b131
  try have a_1 : ((y0 + y1)).toInt = (y0).toInt + (y1).toInt := i_add (by omega) (by omega)
  have n_2 : ((4 : Int32)).toInt = 4 := rfl
  try have a_3 : (((y0 + y1) / (4 : Int32))).toInt = ((y0 + y1)).toInt / 4 := (i_div (by omega) (by omega)).trans (by rw [show ((4 : Int32)).toInt = 4 from rfl])
  try have a_4 : ((((y0 + y1) / (4 : Int32)) * (4 : Int32))).toInt = (((y0 + y1) / (4 : Int32))).toInt * 4 := i_mulr (by omega) (by omega) (by omega)
  try have a_5 : (((y0 + y1) - (((y0 + y1) / (4 : Int32)) * (4 : Int32)))).toInt = ((y0 + y1)).toInt - ((((y0 + y1) / (4 : Int32)) * (4 : Int32))).toInt := i_sub (by omega) (by omega)
  refine Sf.b (fun x7_134 e_x7_134 => ?_)
  have d_x7_134 := congrArg Int32.toInt e_x7_134
  exact (sX7_laySide_b136 h_M ⟨by omega, by omega⟩ ⟨by omega, by omega⟩ ⟨by omega, by omega⟩ ⟨by omega, by omega⟩ ⟨by omega, by omega⟩ ⟨by omega, by omega⟩ (by omega) hih16 (by omega))
set_option maxHeartbeats 2000000 in
theorem sX7_laySide_b113 {g : Gm} {ih16 : Int32 → Int32 → Int32 → Int32 → Int32 → Int32 → Mem → Option (Mem × Unit)} {x2 : Int32} {x4 : Int32} {x5 : Int32} {x6 : Int32} {x7 : Int32} {x8 : Int32} {y0 : Int32} {M : Mem} {d16 : Nat} (h_M : OKm g M) (hx2 : (-1 : Int) ≤ (x2).toInt ∧ (x2).toInt ≤ 1) (hx4 : (1 : Int) ≤ (x4).toInt ∧ (x4).toInt ≤ 3) (hx5 : (0 : Int) ≤ (x5).toInt ∧ (x5).toInt ≤ 1) (hx6 : (0 : Int) ≤ (x6).toInt ∧ (x6).toInt ≤ 255) (hx7 : (0 : Int) ≤ (x7).toInt ∧ (x7).toInt ≤ 3) (hx8 : (0 : Int) ≤ (x8).toInt ∧ (x8).toInt ≤ 8) (hy0 : (0 : Int) ≤ (y0).toInt ∧ (y0).toInt ≤ 1) (he0 : (1 : Int) ≤ (rd M (135 + 1) ((((0 : Int32)).toNatClampNeg))).toInt ∧ (rd M (135 + 1) ((((0 : Int32)).toNatClampNeg))).toInt ≤ 8) (hr0 : ((x2).toInt = 1 ∨ (x2).toInt = -1)) (hih16 : ∀ (yx2 : Int32) (yx4 : Int32) (yx5 : Int32) (yx6 : Int32) (yx7 : Int32) (yx8 : Int32) (M : Mem), OKm g M → ((-1 : Int) ≤ (yx2).toInt ∧ (yx2).toInt ≤ 1) → ((1 : Int) ≤ (yx4).toInt ∧ (yx4).toInt ≤ 3) → ((0 : Int) ≤ (yx5).toInt ∧ (yx5).toInt ≤ 1) → ((0 : Int) ≤ (yx6).toInt ∧ (yx6).toInt ≤ 255) → ((0 : Int) ≤ (yx7).toInt ∧ (yx7).toInt ≤ 3) → ((-1 : Int) ≤ (yx8).toInt ∧ (yx8).toInt ≤ 9) → (((yx2).toInt = 1 ∨ (yx2).toInt = -1)) → (if (yx2).toInt = 1 then 10 - (yx8).toInt else (yx8).toInt + 2) < d16 → Sf (ih16 yx2 yx4 yx5 yx6 yx7 yx8 M) (qM g)) (hmu16 : (if (x2).toInt = 1 then 10 - (x8).toInt else (x8).toInt + 2) ≤ d16) : Sf (mX7_laySide_b113 135 ih16 x2 x4 x5 x6 x7 x8 y0 M) (qM g) := by
  unfold mX7_laySide_b113
  have n_1 : ((0 : Int32)).toInt = 0 := rfl
  refine Sf.i (fun c_2 => ?_) (fun c_2 => ?_)
  · have c_2 := i_eq.mp c_2
    have n_3 : ((4 : Int32)).toInt = 4 := rfl
    try have a_4 : (((4 : Int32) - x4)).toInt = ((4 : Int32)).toInt - (x4).toInt := i_sub (by omega) (by omega)
    have n_6 : ((0 : Int32)).toInt = 0 := rfl
    have b_5 : (0 : Int) ≤ (rd M (135 + 1) (((0 : Int32)).toNatClampNeg)).toInt ∧ (rd M (135 + 1) (((0 : Int32)).toNatClampNeg)).toInt ≤ 8 := h_M.ri 0 0 (by decide +kernel) (by omega) (by omega)
    exact (sX7_laySide_b131 h_M ⟨by omega, by omega⟩ ⟨by omega, by omega⟩ ⟨by omega, by omega⟩ ⟨by omega, by omega⟩ ⟨by omega, by omega⟩ ⟨by omega, by omega⟩ ⟨by omega, by omega⟩ ⟨by omega, by omega⟩ (by omega) hih16 (by omega))
  · have c_2 := i_ne c_2
    have n_8 : ((0 : Int32)).toInt = 0 := rfl
    have b_7 : (0 : Int) ≤ (rd M (135 + 1) (((0 : Int32)).toNatClampNeg)).toInt ∧ (rd M (135 + 1) (((0 : Int32)).toNatClampNeg)).toInt ≤ 8 := h_M.ri 0 0 (by decide +kernel) (by omega) (by omega)
    exact (sX7_laySide_b131 h_M ⟨by omega, by omega⟩ ⟨by omega, by omega⟩ ⟨by omega, by omega⟩ ⟨by omega, by omega⟩ ⟨by omega, by omega⟩ ⟨by omega, by omega⟩ ⟨by omega, by omega⟩ ⟨by omega, by omega⟩ (by omega) hih16 (by omega))
set_option maxHeartbeats 2000000 in
theorem sX7_laySide_b103 {g : Gm} {ih16 : Int32 → Int32 → Int32 → Int32 → Int32 → Int32 → Mem → Option (Mem × Unit)} {x2 : Int32} {x4 : Int32} {x5 : Int32} {x6 : Int32} {x7 : Int32} {x8 : Int32} {y0 : Int32} {M : Mem} {d16 : Nat} (h_M : OKm g M) (hx2 : (-1 : Int) ≤ (x2).toInt ∧ (x2).toInt ≤ 1) (hx4 : (1 : Int) ≤ (x4).toInt ∧ (x4).toInt ≤ 3) (hx5 : (0 : Int) ≤ (x5).toInt ∧ (x5).toInt ≤ 1) (hx6 : (0 : Int) ≤ (x6).toInt ∧ (x6).toInt ≤ 255) (hx7 : (0 : Int) ≤ (x7).toInt ∧ (x7).toInt ≤ 3) (hx8 : (0 : Int) ≤ (x8).toInt ∧ (x8).toInt ≤ 8) (hy0 : (0 : Int) ≤ (y0).toInt ∧ (y0).toInt ≤ 1) (he0 : (1 : Int) ≤ (rd M (135 + 1) ((((0 : Int32)).toNatClampNeg))).toInt ∧ (rd M (135 + 1) ((((0 : Int32)).toNatClampNeg))).toInt ≤ 8) (hr0 : ((x2).toInt = 1 ∨ (x2).toInt = -1)) (hih16 : ∀ (yx2 : Int32) (yx4 : Int32) (yx5 : Int32) (yx6 : Int32) (yx7 : Int32) (yx8 : Int32) (M : Mem), OKm g M → ((-1 : Int) ≤ (yx2).toInt ∧ (yx2).toInt ≤ 1) → ((1 : Int) ≤ (yx4).toInt ∧ (yx4).toInt ≤ 3) → ((0 : Int) ≤ (yx5).toInt ∧ (yx5).toInt ≤ 1) → ((0 : Int) ≤ (yx6).toInt ∧ (yx6).toInt ≤ 255) → ((0 : Int) ≤ (yx7).toInt ∧ (yx7).toInt ≤ 3) → ((-1 : Int) ≤ (yx8).toInt ∧ (yx8).toInt ≤ 9) → (((yx2).toInt = 1 ∨ (yx2).toInt = -1)) → (if (yx2).toInt = 1 then 10 - (yx8).toInt else (yx8).toInt + 2) < d16 → Sf (ih16 yx2 yx4 yx5 yx6 yx7 yx8 M) (qM g)) (hmu16 : (if (x2).toInt = 1 then 10 - (x8).toInt else (x8).toInt + 2) ≤ d16) : Sf (mX7_laySide_b103 135 ih16 x2 x4 x5 x6 x7 x8 y0 M) (qM g) := by
  unfold mX7_laySide_b103
  refine Sf.i (fun c_1 => ?_) (fun c_1 => ?_)
  · have c_1 := i_eq.mp c_1
    have n_2 : ((0 : Int32)).toInt = 0 := rfl
    have b_3 : (0 : Int) ≤ (rd M (135 + 1) (((0 : Int32)).toNatClampNeg)).toInt ∧ (rd M (135 + 1) (((0 : Int32)).toNatClampNeg)).toInt ≤ 8 := h_M.ri 0 0 (by decide +kernel) (by omega) (by omega)
    exact (sX7_laySide_b113 h_M ⟨by omega, by omega⟩ ⟨by omega, by omega⟩ ⟨by omega, by omega⟩ ⟨by omega, by omega⟩ ⟨by omega, by omega⟩ ⟨by omega, by omega⟩ ⟨by omega, by omega⟩ ⟨by omega, by omega⟩ (by omega) hih16 (by omega))
  · have c_1 := i_ne c_1
    have n_4 : ((1 : Int32)).toInt = 1 := rfl
    have n_6 : ((0 : Int32)).toInt = 0 := rfl
    have b_5 : (0 : Int) ≤ (rd M (135 + 1) (((0 : Int32)).toNatClampNeg)).toInt ∧ (rd M (135 + 1) (((0 : Int32)).toNatClampNeg)).toInt ≤ 8 := h_M.ri 0 0 (by decide +kernel) (by omega) (by omega)
    exact (sX7_laySide_b113 h_M ⟨by omega, by omega⟩ ⟨by omega, by omega⟩ ⟨by omega, by omega⟩ ⟨by omega, by omega⟩ ⟨by omega, by omega⟩ ⟨by omega, by omega⟩ ⟨by omega, by omega⟩ ⟨by omega, by omega⟩ (by omega) hih16 (by omega))
set_option maxHeartbeats 2000000 in
theorem sX7_laySide_b53 {g : Gm} {ih16 : Int32 → Int32 → Int32 → Int32 → Int32 → Int32 → Mem → Option (Mem × Unit)} {x2 : Int32} {x4 : Int32} {x5 : Int32} {x6 : Int32} {x7 : Int32} {x8 : Int32} {y0 : Int32} {M : Mem} {d16 : Nat} (h_M : OKm g M) (hx2 : (-1 : Int) ≤ (x2).toInt ∧ (x2).toInt ≤ 1) (hx4 : (1 : Int) ≤ (x4).toInt ∧ (x4).toInt ≤ 3) (hx5 : (0 : Int) ≤ (x5).toInt ∧ (x5).toInt ≤ 1) (hx6 : (0 : Int) ≤ (x6).toInt ∧ (x6).toInt ≤ 255) (hx7 : (0 : Int) ≤ (x7).toInt ∧ (x7).toInt ≤ 3) (hx8 : (0 : Int) ≤ (x8).toInt ∧ (x8).toInt ≤ 8) (hy0 : (-1 : Int) ≤ (y0).toInt ∧ (y0).toInt ≤ 8) (hr0 : ((x2).toInt = 1 ∨ (x2).toInt = -1)) (hih16 : ∀ (yx2 : Int32) (yx4 : Int32) (yx5 : Int32) (yx6 : Int32) (yx7 : Int32) (yx8 : Int32) (M : Mem), OKm g M → ((-1 : Int) ≤ (yx2).toInt ∧ (yx2).toInt ≤ 1) → ((1 : Int) ≤ (yx4).toInt ∧ (yx4).toInt ≤ 3) → ((0 : Int) ≤ (yx5).toInt ∧ (yx5).toInt ≤ 1) → ((0 : Int) ≤ (yx6).toInt ∧ (yx6).toInt ≤ 255) → ((0 : Int) ≤ (yx7).toInt ∧ (yx7).toInt ≤ 3) → ((-1 : Int) ≤ (yx8).toInt ∧ (yx8).toInt ≤ 9) → (((yx2).toInt = 1 ∨ (yx2).toInt = -1)) → (if (yx2).toInt = 1 then 10 - (yx8).toInt else (yx8).toInt + 2) < d16 → Sf (ih16 yx2 yx4 yx5 yx6 yx7 yx8 M) (qM g)) (hmu16 : (if (x2).toInt = 1 then 10 - (x8).toInt else (x8).toInt + 2) ≤ d16) : Sf (mX7_laySide_b53 135 ih16 x2 x4 x5 x6 x7 x8 y0 M) (qM g) := by
  unfold mX7_laySide_b53
  have n_1 : ((0 : Int32)).toInt = 0 := rfl
  refine Sf.k (ok_in (by omega) (by omega)) ?_
  have b_3 : (0 : Int) ≤ (rd M (135 + 1) (((0 : Int32)).toNatClampNeg)).toInt ∧ (rd M (135 + 1) (((0 : Int32)).toNatClampNeg)).toInt ≤ 8 := h_M.ri 0 0 (by decide +kernel) (by omega) (by omega)
  have n_4 : ((1 : Int32)).toInt = 1 := rfl
  try have a_5 : (((rd M (135 + 1) (((0 : Int32)).toNatClampNeg)) - (1 : Int32))).toInt = ((rd M (135 + 1) (((0 : Int32)).toNatClampNeg))).toInt - ((1 : Int32)).toInt := i_sub (by omega) (by omega)
  refine Sf.c (sX7_between (a := (y0).toInt) (b := 0) (c := (((rd M (135 + 1) (((0 : Int32)).toNatClampNeg)) - (1 : Int32))).toInt) (Int32.toInt_toInt64 _) (by decide) (Int32.toInt_toInt64 _)) (fun r14 p_2 => ?_)
  have p_2 : (0 ≤ (r14).toInt ∧ (r14).toInt ≤ 1) ∧ ((r14).toInt = 0 ∨ (0 ≤ (y0).toInt ∧ (y0).toInt ≤ (((rd M (135 + 1) (((0 : Int32)).toNatClampNeg)) - (1 : Int32))).toInt)) := p_2
  have n_6 : ((0 : Int32)).toInt = 0 := rfl
  refine Sf.i (fun c_7 => ?_) (fun c_7 => ?_)
  · have c_7 := i_eq.mp c_7
    have n0_c_7 : ((0 : Int32)).toInt = 0 := rfl
    exact (sX7_laySide_b136 h_M ⟨by omega, by omega⟩ ⟨by omega, by omega⟩ ⟨by omega, by omega⟩ ⟨by omega, by omega⟩ ⟨by omega, by omega⟩ ⟨by omega, by omega⟩ (by omega) hih16 (by omega))
  · have c_7 := i_ne c_7
    have n0_c_7 : ((0 : Int32)).toInt = 0 := rfl
    refine Sf.c (sX7_has h_M ⟨by omega, by omega⟩ ⟨by omega, by omega⟩) (fun r19 p_8 => ?_)
    obtain ⟨p_8a, p_8b⟩ := p_8
    refine Sf.i (fun c_9 => ?_) (fun c_9 => ?_)
    · have c_9 := i_eq.mp c_9
      exact (sX7_laySide_b136 h_M ⟨by omega, by omega⟩ ⟨by omega, by omega⟩ ⟨by omega, by omega⟩ ⟨by omega, by omega⟩ ⟨by omega, by omega⟩ ⟨by omega, by omega⟩ (by omega) hih16 (by omega))
    · have c_9 := i_ne c_9
      have n_10 : ((11 : Int32)).toInt = 11 := rfl
      try have a_11 : (((11 : Int32) + y0)).toInt = ((11 : Int32)).toInt + (y0).toInt := i_add (by omega) (by omega)
      refine Sf.k (ok_in (by omega) (by omega)) ?_
      have b_12 : (0 : Int) ≤ (rd M (135 + 1) ((((11 : Int32) + y0)).toNatClampNeg)).toInt ∧ (rd M (135 + 1) ((((11 : Int32) + y0)).toNatClampNeg)).toInt ≤ 1 := h_M.ri 11 18 (by decide +kernel) (by omega) (by omega)
      refine Sf.i (fun c_13 => ?_) (fun c_13 => ?_)
      · have c_13 := i_eq.mp c_13
        exact (sX7_laySide_b103 h_M ⟨by omega, by omega⟩ ⟨by omega, by omega⟩ ⟨by omega, by omega⟩ ⟨by omega, by omega⟩ ⟨by omega, by omega⟩ ⟨by omega, by omega⟩ ⟨by omega, by omega⟩ ⟨by omega, by omega⟩ (by omega) hih16 (by omega))
      · have c_13 := i_ne c_13
        exact (sX7_laySide_b103 h_M ⟨by omega, by omega⟩ ⟨by omega, by omega⟩ ⟨by omega, by omega⟩ ⟨by omega, by omega⟩ ⟨by omega, by omega⟩ ⟨by omega, by omega⟩ ⟨by omega, by omega⟩ ⟨by omega, by omega⟩ (by omega) hih16 (by omega))
set_option maxHeartbeats 2000000 in
theorem sX7_laySide_b16 {g : Gm} {ih16 : Int32 → Int32 → Int32 → Int32 → Int32 → Int32 → Mem → Option (Mem × Unit)} {x2 : Int32} {x4 : Int32} {x5 : Int32} {x6 : Int32} {x7 : Int32} {x8 : Int32} {M : Mem} {d16 : Nat} (h_M : OKm g M) (hx2 : (-1 : Int) ≤ (x2).toInt ∧ (x2).toInt ≤ 1) (hx4 : (1 : Int) ≤ (x4).toInt ∧ (x4).toInt ≤ 3) (hx5 : (0 : Int) ≤ (x5).toInt ∧ (x5).toInt ≤ 1) (hx6 : (0 : Int) ≤ (x6).toInt ∧ (x6).toInt ≤ 255) (hx7 : (0 : Int) ≤ (x7).toInt ∧ (x7).toInt ≤ 3) (hx8 : (-1 : Int) ≤ (x8).toInt ∧ (x8).toInt ≤ 9) (hr0 : ((x2).toInt = 1 ∨ (x2).toInt = -1)) (hih16 : ∀ (yx2 : Int32) (yx4 : Int32) (yx5 : Int32) (yx6 : Int32) (yx7 : Int32) (yx8 : Int32) (M : Mem), OKm g M → ((-1 : Int) ≤ (yx2).toInt ∧ (yx2).toInt ≤ 1) → ((1 : Int) ≤ (yx4).toInt ∧ (yx4).toInt ≤ 3) → ((0 : Int) ≤ (yx5).toInt ∧ (yx5).toInt ≤ 1) → ((0 : Int) ≤ (yx6).toInt ∧ (yx6).toInt ≤ 255) → ((0 : Int) ≤ (yx7).toInt ∧ (yx7).toInt ≤ 3) → ((-1 : Int) ≤ (yx8).toInt ∧ (yx8).toInt ≤ 9) → (((yx2).toInt = 1 ∨ (yx2).toInt = -1)) → (if (yx2).toInt = 1 then 10 - (yx8).toInt else (yx8).toInt + 2) < d16 → Sf (ih16 yx2 yx4 yx5 yx6 yx7 yx8 M) (qM g)) (hmu16 : (if (x2).toInt = 1 then 10 - (x8).toInt else (x8).toInt + 2) ≤ d16) : Sf (mX7_laySide_b16 135 ih16 x2 x4 x5 x6 x7 x8 M) (qM g) := by
  unfold mX7_laySide_b16
  have n_1 : ((0 : Int32)).toInt = 0 := rfl
  refine Sf.i (fun c_2 => ?_) (fun c_2 => ?_)
  · have c_2 := i_lt.mp c_2
    exact Sf.ok h_M
  · have c_2 := i_nlt c_2
    have n_3 : ((1 : Int32)).toInt = 1 := rfl
    refine Sf.k (ok_in (by omega) (by omega)) ?_
    have b_4 : (0 : Int) ≤ (rd M (135 + 1) (((1 : Int32)).toNatClampNeg)).toInt ∧ (rd M (135 + 1) (((1 : Int32)).toNatClampNeg)).toInt ≤ 9 := h_M.ri 1 1 (by decide +kernel) (by omega) (by omega)
    refine Sf.i (fun c_5 => ?_) (fun c_5 => ?_)
    · have c_5 := i_le.mp c_5
      exact Sf.ok h_M
    · have c_5 := i_nle c_5
      refine Sf.m (sX7_layLeg h_M ⟨by omega, by omega⟩ ⟨by omega, by omega⟩) (fun M10 _ h_M10 => ?_)
      have h_M10 : OKm g M10 := h_M10
      refine Sf.i (fun c_7 => ?_) (fun c_7 => ?_)
      · have c_7 := i_le.mp c_7
        try have a_8 : ((x8 - (1 : Int32))).toInt = (x8).toInt - ((1 : Int32)).toInt := i_sub (by omega) (by omega)
        exact (sX7_laySide_b53 h_M10 ⟨by omega, by omega⟩ ⟨by omega, by omega⟩ ⟨by omega, by omega⟩ ⟨by omega, by omega⟩ ⟨by omega, by omega⟩ ⟨by omega, by omega⟩ ⟨by omega, by omega⟩ (by omega) hih16 (by omega))
      · have c_7 := i_nle c_7
        exact (sX7_laySide_b53 h_M10 ⟨by omega, by omega⟩ ⟨by omega, by omega⟩ ⟨by omega, by omega⟩ ⟨by omega, by omega⟩ ⟨by omega, by omega⟩ ⟨by omega, by omega⟩ ⟨by omega, by omega⟩ (by omega) hih16 (by omega))
theorem sX7_laySide_l16_n {g : Gm}    : ∀ (n : Nat) (x2 : Int32) (x4 : Int32) (x5 : Int32) (x6 : Int32) (x7 : Int32) (x8 : Int32) (M : Mem) (h_M : OKm g M) (hx2 : (-1 : Int) ≤ (x2).toInt ∧ (x2).toInt ≤ 1) (hx4 : (1 : Int) ≤ (x4).toInt ∧ (x4).toInt ≤ 3) (hx5 : (0 : Int) ≤ (x5).toInt ∧ (x5).toInt ≤ 1) (hx6 : (0 : Int) ≤ (x6).toInt ∧ (x6).toInt ≤ 255) (hx7 : (0 : Int) ≤ (x7).toInt ∧ (x7).toInt ≤ 3) (hx8 : (-1 : Int) ≤ (x8).toInt ∧ (x8).toInt ≤ 9)  (hr0 : ((x2).toInt = 1 ∨ (x2).toInt = -1))  (hmu : (if (x2).toInt = 1 then 10 - (x8).toInt else (x8).toInt + 2) < n), Sf (mX7_laySide_l16 135 n x2 x4 x5 x6 x7 x8 M) (qM g) := by
  intro n
  induction n with
  | zero => intro x2 x4 x5 x6 x7 x8 M h_M hx2 hx4 hx5 hx6 hx7 hx8 hr0 hmu; exfalso; omega
  | succ n IH => intro x2 x4 x5 x6 x7 x8 M h_M hx2 hx4 hx5 hx6 hx7 hx8 hr0 hmu; exact sX7_laySide_b16  h_M hx2 hx4 hx5 hx6 hx7 hx8  hr0  IH (by omega)
theorem sX7_laySide_l16 {g : Gm}  {x2 : Int32} {x4 : Int32} {x5 : Int32} {x6 : Int32} {x7 : Int32} {x8 : Int32} {M : Mem}  (h_M : OKm g M) (hx2 : (-1 : Int) ≤ (x2).toInt ∧ (x2).toInt ≤ 1) (hx4 : (1 : Int) ≤ (x4).toInt ∧ (x4).toInt ≤ 3) (hx5 : (0 : Int) ≤ (x5).toInt ∧ (x5).toInt ≤ 1) (hx6 : (0 : Int) ≤ (x6).toInt ∧ (x6).toInt ≤ 255) (hx7 : (0 : Int) ≤ (x7).toInt ∧ (x7).toInt ≤ 3) (hx8 : (-1 : Int) ≤ (x8).toInt ∧ (x8).toInt ≤ 9)  (hr0 : ((x2).toInt = 1 ∨ (x2).toInt = -1))  (hmu : (if (x2).toInt = 1 then 10 - (x8).toInt else (x8).toInt + 2) < 5000) : Sf (mX7_laySide_l16 135 5000 x2 x4 x5 x6 x7 x8 M) (qM g) :=
  sX7_laySide_l16_n   5000 _ _ _ _ _ _ M h_M hx2 hx4 hx5 hx6 hx7 hx8  hr0  hmu
set_option maxHeartbeats 2000000 in
theorem sX7_laySide {g : Gm} {x1 : Int32} {x2 : Int32} {x3 : Int32} {x4 : Int32} {x5 : Int32} {x6 : Int32} {M : Mem} (h_M : OKm g M) (hx1 : (0 : Int) ≤ (x1).toInt ∧ (x1).toInt ≤ 8) (hx2 : (-1 : Int) ≤ (x2).toInt ∧ (x2).toInt ≤ 1) (hx3 : (0 : Int) ≤ (x3).toInt ∧ (x3).toInt ≤ 3) (hx4 : (1 : Int) ≤ (x4).toInt ∧ (x4).toInt ≤ 3) (hx5 : (0 : Int) ≤ (x5).toInt ∧ (x5).toInt ≤ 1) (hx6 : (0 : Int) ≤ (x6).toInt ∧ (x6).toInt ≤ 255) (hxx : (x2).toInt = 1 ∨ (x2).toInt = -1) : Sf (mX7_laySide 135 x1 x2 x3 x4 x5 x6 M) (qM g) := by
  unfold mX7_laySide
  refine Sf.b (fun M1 e_M1 => ?_)
  have h_M1 : OKm g M1 := by rw [e_M1]; exact h_M.put rfl (i_rng _)
  refine Sf.b (fun M3 e_M3 => ?_)
  have h_M3 : OKm g M3 := by rw [e_M3]; exact h_M1.put rfl (i_rng _)
  exact (sX7_laySide_l16 h_M3 ⟨by omega, by omega⟩ ⟨by omega, by omega⟩ ⟨by omega, by omega⟩ ⟨by omega, by omega⟩ ⟨by omega, by omega⟩ ⟨by omega, by omega⟩ (by omega) (by omega))
set_option maxHeartbeats 2000000 in
theorem sX7_laySheet_b69 {g : Gm} {x3 : Int32} {x4 : Int32} {y1 : Int32} {y2 : Int32} {y3 : Int32} {y4 : Int32} {M : Mem} (h_M : OKm g M) (hx3 : (0 : Int) ≤ (x3).toInt ∧ (x3).toInt ≤ 255) (hx4 : (0 : Int) ≤ (x4).toInt ∧ (x4).toInt ≤ 1) (hy1 : (1 : Int) ≤ (y1).toInt ∧ (y1).toInt ≤ 8) (hy2 : (1 : Int) ≤ (y2).toInt ∧ (y2).toInt ≤ 1) (hy3 : (0 : Int) ≤ (y3).toInt ∧ (y3).toInt ≤ 3) (hy4 : (1 : Int) ≤ (y4).toInt ∧ (y4).toInt ≤ 3) : Sf (mX7_laySheet_b69 135 x3 x4 y1 y2 y3 y4 M) (qM g) := by
  unfold mX7_laySheet_b69
  refine Sf.m (sX7_laySide h_M ⟨by omega, by omega⟩ ⟨by omega, by omega⟩ ⟨by omega, by omega⟩ ⟨by omega, by omega⟩ ⟨by omega, by omega⟩ ⟨by omega, by omega⟩ (by omega)) (fun M12 _ h_M12 => ?_)
  have h_M12 : OKm g M12 := h_M12
  exact Sf.ok h_M12
set_option maxHeartbeats 2000000 in
theorem sX7_laySheet_b60 {g : Gm} {x2 : Int32} {x3 : Int32} {x4 : Int32} {y1 : Int32} {y2 : Int32} {y3 : Int32} {M : Mem} (h_M : OKm g M) (hx2 : (0 : Int) ≤ (x2).toInt ∧ (x2).toInt ≤ 1) (hx3 : (0 : Int) ≤ (x3).toInt ∧ (x3).toInt ≤ 255) (hx4 : (0 : Int) ≤ (x4).toInt ∧ (x4).toInt ≤ 1) (hy1 : (1 : Int) ≤ (y1).toInt ∧ (y1).toInt ≤ 8) (hy2 : (1 : Int) ≤ (y2).toInt ∧ (y2).toInt ≤ 1) (hy3 : (0 : Int) ≤ (y3).toInt ∧ (y3).toInt ≤ 3) : Sf (mX7_laySheet_b60 135 x2 x3 x4 y1 y2 y3 M) (qM g) := by
  unfold mX7_laySheet_b60
  have n_1 : ((0 : Int32)).toInt = 0 := rfl
  refine Sf.i (fun c_2 => ?_) (fun c_2 => ?_)
  · have c_2 := i_eq.mp c_2
    have n_3 : ((3 : Int32)).toInt = 3 := rfl
    exact (sX7_laySheet_b69 h_M ⟨by omega, by omega⟩ ⟨by omega, by omega⟩ ⟨by omega, by omega⟩ ⟨by omega, by omega⟩ ⟨by omega, by omega⟩ ⟨by omega, by omega⟩)
  · have c_2 := i_ne c_2
    have n_4 : ((1 : Int32)).toInt = 1 := rfl
    exact (sX7_laySheet_b69 h_M ⟨by omega, by omega⟩ ⟨by omega, by omega⟩ ⟨by omega, by omega⟩ ⟨by omega, by omega⟩ ⟨by omega, by omega⟩ ⟨by omega, by omega⟩)
set_option maxHeartbeats 2000000 in
theorem sX7_laySheet_b40 {g : Gm} {x1 : Int32} {x2 : Int32} {x3 : Int32} {x4 : Int32} {y1 : Int32} {y2 : Int32} {y3 : Int32} {y4 : Int32} {M : Mem} (h_M : OKm g M) (hx1 : (0 : Int) ≤ (x1).toInt ∧ (x1).toInt ≤ 7) (hx2 : (0 : Int) ≤ (x2).toInt ∧ (x2).toInt ≤ 1) (hx3 : (0 : Int) ≤ (x3).toInt ∧ (x3).toInt ≤ 255) (hx4 : (0 : Int) ≤ (x4).toInt ∧ (x4).toInt ≤ 1) (hy1 : (0 : Int) ≤ (y1).toInt ∧ (y1).toInt ≤ 7) (hy2 : (-1 : Int) ≤ (y2).toInt ∧ (y2).toInt ≤ -1) (hy3 : (0 : Int) ≤ (y3).toInt ∧ (y3).toInt ≤ 3) (hy4 : (1 : Int) ≤ (y4).toInt ∧ (y4).toInt ≤ 3) : Sf (mX7_laySheet_b40 135 x1 x2 x3 x4 y1 y2 y3 y4 M) (qM g) := by
  unfold mX7_laySheet_b40
  refine Sf.m (sX7_laySide h_M ⟨by omega, by omega⟩ ⟨by omega, by omega⟩ ⟨by omega, by omega⟩ ⟨by omega, by omega⟩ ⟨by omega, by omega⟩ ⟨by omega, by omega⟩ (by omega)) (fun M7 _ h_M7 => ?_)
  have h_M7 : OKm g M7 := h_M7
  have n_2 : ((0 : Int32)).toInt = 0 := rfl
  refine Sf.i (fun c_3 => ?_) (fun c_3 => ?_)
  · have c_3 := i_eq.mp c_3
    have n_4 : ((1 : Int32)).toInt = 1 := rfl
    try have a_5 : ((x1 + (1 : Int32))).toInt = (x1).toInt + ((1 : Int32)).toInt := i_add (by omega) (by omega)
    have n_6 : ((0 : Int32)).toInt = 0 := rfl
    exact (sX7_laySheet_b60 h_M7 ⟨by omega, by omega⟩ ⟨by omega, by omega⟩ ⟨by omega, by omega⟩ ⟨by omega, by omega⟩ ⟨by omega, by omega⟩ ⟨by omega, by omega⟩)
  · have c_3 := i_ne c_3
    have n_7 : ((1 : Int32)).toInt = 1 := rfl
    try have a_8 : ((x1 + (1 : Int32))).toInt = (x1).toInt + ((1 : Int32)).toInt := i_add (by omega) (by omega)
    have n_9 : ((3 : Int32)).toInt = 3 := rfl
    exact (sX7_laySheet_b60 h_M7 ⟨by omega, by omega⟩ ⟨by omega, by omega⟩ ⟨by omega, by omega⟩ ⟨by omega, by omega⟩ ⟨by omega, by omega⟩ ⟨by omega, by omega⟩)
set_option maxHeartbeats 2000000 in
theorem sX7_laySheet_b31 {g : Gm} {x1 : Int32} {x2 : Int32} {x3 : Int32} {x4 : Int32} {y1 : Int32} {y2 : Int32} {y3 : Int32} {M : Mem} (h_M : OKm g M) (hx1 : (0 : Int) ≤ (x1).toInt ∧ (x1).toInt ≤ 7) (hx2 : (0 : Int) ≤ (x2).toInt ∧ (x2).toInt ≤ 1) (hx3 : (0 : Int) ≤ (x3).toInt ∧ (x3).toInt ≤ 255) (hx4 : (0 : Int) ≤ (x4).toInt ∧ (x4).toInt ≤ 1) (hy1 : (0 : Int) ≤ (y1).toInt ∧ (y1).toInt ≤ 7) (hy2 : (-1 : Int) ≤ (y2).toInt ∧ (y2).toInt ≤ -1) (hy3 : (0 : Int) ≤ (y3).toInt ∧ (y3).toInt ≤ 3) : Sf (mX7_laySheet_b31 135 x1 x2 x3 x4 y1 y2 y3 M) (qM g) := by
  unfold mX7_laySheet_b31
  have n_1 : ((0 : Int32)).toInt = 0 := rfl
  refine Sf.i (fun c_2 => ?_) (fun c_2 => ?_)
  · have c_2 := i_eq.mp c_2
    have n_3 : ((1 : Int32)).toInt = 1 := rfl
    exact (sX7_laySheet_b40 h_M ⟨by omega, by omega⟩ ⟨by omega, by omega⟩ ⟨by omega, by omega⟩ ⟨by omega, by omega⟩ ⟨by omega, by omega⟩ ⟨by omega, by omega⟩ ⟨by omega, by omega⟩ ⟨by omega, by omega⟩)
  · have c_2 := i_ne c_2
    have n_4 : ((3 : Int32)).toInt = 3 := rfl
    exact (sX7_laySheet_b40 h_M ⟨by omega, by omega⟩ ⟨by omega, by omega⟩ ⟨by omega, by omega⟩ ⟨by omega, by omega⟩ ⟨by omega, by omega⟩ ⟨by omega, by omega⟩ ⟨by omega, by omega⟩ ⟨by omega, by omega⟩)
set_option maxHeartbeats 2000000 in
theorem sX7_laySheet_b17 {g : Gm} {x1 : Int32} {x2 : Int32} {x3 : Int32} {y0 : Int32} {M : Mem} (h_M : OKm g M) (hx1 : (0 : Int) ≤ (x1).toInt ∧ (x1).toInt ≤ 7) (hx2 : (0 : Int) ≤ (x2).toInt ∧ (x2).toInt ≤ 1) (hx3 : (0 : Int) ≤ (x3).toInt ∧ (x3).toInt ≤ 255) (hy0 : (0 : Int) ≤ (y0).toInt ∧ (y0).toInt ≤ 1) : Sf (mX7_laySheet_b17 135 x1 x2 x3 y0 M) (qM g) := by
  unfold mX7_laySheet_b17
  have n_1 : ((0 : Int32)).toInt = 0 := rfl
  refine Sf.i (fun c_2 => ?_) (fun c_2 => ?_)
  · have c_2 := i_eq.mp c_2
    have n_3 : (((-1) : Int32)).toInt = -1 := rfl
    have n_4 : ((3 : Int32)).toInt = 3 := rfl
    exact (sX7_laySheet_b31 h_M ⟨by omega, by omega⟩ ⟨by omega, by omega⟩ ⟨by omega, by omega⟩ ⟨by omega, by omega⟩ ⟨by omega, by omega⟩ ⟨by omega, by omega⟩ ⟨by omega, by omega⟩)
  · have c_2 := i_ne c_2
    have n_5 : (((-1) : Int32)).toInt = -1 := rfl
    have n_6 : ((0 : Int32)).toInt = 0 := rfl
    exact (sX7_laySheet_b31 h_M ⟨by omega, by omega⟩ ⟨by omega, by omega⟩ ⟨by omega, by omega⟩ ⟨by omega, by omega⟩ ⟨by omega, by omega⟩ ⟨by omega, by omega⟩ ⟨by omega, by omega⟩)
set_option maxHeartbeats 2000000 in
theorem sX7_laySheet {g : Gm} {x1 : Int32} {x2 : Int32} {x3 : Int32} {M : Mem} (h_M : OKm g M) (hx1 : (0 : Int) ≤ (x1).toInt ∧ (x1).toInt ≤ 7) (hx2 : (0 : Int) ≤ (x2).toInt ∧ (x2).toInt ≤ 1) (hx3 : (0 : Int) ≤ (x3).toInt ∧ (x3).toInt ≤ 255) : Sf (mX7_laySheet 135 x1 x2 x3 M) (qM g) := by
  unfold mX7_laySheet
  have n_1 : ((11 : Int32)).toInt = 11 := rfl
  try have a_2 : (((11 : Int32) + x1)).toInt = ((11 : Int32)).toInt + (x1).toInt := i_add (by omega) (by omega)
  refine Sf.k (ok_in (by omega) (by omega)) ?_
  have b_3 : (0 : Int) ≤ (rd M (135 + 1) ((((11 : Int32) + x1)).toNatClampNeg)).toInt ∧ (rd M (135 + 1) ((((11 : Int32) + x1)).toNatClampNeg)).toInt ≤ 1 := h_M.ri 11 18 (by decide +kernel) (by omega) (by omega)
  have n_4 : ((0 : Int32)).toInt = 0 := rfl
  refine Sf.i (fun c_5 => ?_) (fun c_5 => ?_)
  · have c_5 := i_eq.mp c_5
    have n_6 : ((1 : Int32)).toInt = 1 := rfl
    exact (sX7_laySheet_b17 h_M ⟨by omega, by omega⟩ ⟨by omega, by omega⟩ ⟨by omega, by omega⟩ ⟨by omega, by omega⟩)
  · have c_5 := i_ne c_5
    have n_7 : ((0 : Int32)).toInt = 0 := rfl
    exact (sX7_laySheet_b17 h_M ⟨by omega, by omega⟩ ⟨by omega, by omega⟩ ⟨by omega, by omega⟩ ⟨by omega, by omega⟩)
set_option maxHeartbeats 2000000 in
theorem sX7_isCrossing_b37 {g : Gm} {M : Mem} (h_M : OKm g M) : Sf (mX7_isCrossing_b37 M) (pI (0) (1)) := by
  unfold mX7_isCrossing_b37
  have n_1 : ((0 : Int32)).toInt = 0 := rfl
  have z_2 : (0 : Int) ≤ ((0 : Int32)).toInt ∧ ((0 : Int32)).toInt ≤ 1 := ⟨by omega, by omega⟩
  exact Sf.ok z_2
set_option maxHeartbeats 2000000 in
theorem sX7_isCrossing {g : Gm} {x0 : Int32} {x1 : Int32} {x2 : Int32} {x3 : Int32} {M : Mem} (h_M : OKm g M) (hx2 : (-9999 : Int) ≤ (x2).toInt ∧ (x2).toInt ≤ 0) (hx3 : (0 : Int) ≤ (x3).toInt ∧ (x3).toInt ≤ 9999) : Sf (mX7_isCrossing x0 x1 x2 x3 M) (pI (0) (1)) := by
  unfold mX7_isCrossing
  have m_1 := i_min (a := x0) (b := x1)
  refine Sf.b (fun x4_5 e_x4_5 => ?_)
  have d_x4_5 := congrArg Int32.toInt e_x4_5
  have m_2 := i_max (a := x0) (b := x1)
  refine Sf.b (fun x5_12 e_x5_12 => ?_)
  have d_x5_12 := congrArg Int32.toInt e_x5_12
  refine Sf.i (fun c_3 => ?_) (fun c_3 => ?_)
  · have c_3 := i_eq.mp c_3
    refine Sf.i (fun c_4 => ?_) (fun c_4 => ?_)
    · have c_4 := i_le.mp c_4
      exact (sX7_isCrossing_b37 h_M)
    · have c_4 := i_nle c_4
      refine Sf.i (fun c_5 => ?_) (fun c_5 => ?_)
      · have c_5 := i_le.mp c_5
        exact (sX7_isCrossing_b37 h_M)
      · have c_5 := i_nle c_5
        have n_6 : ((1 : Int32)).toInt = 1 := rfl
        have z_7 : (0 : Int) ≤ ((1 : Int32)).toInt ∧ ((1 : Int32)).toInt ≤ 1 := ⟨by omega, by omega⟩
        exact Sf.ok z_7
  · have c_3 := i_ne c_3
    have m_8 := i_min (a := x5_12) (b := x3)
    have m_9 := i_max (a := x4_5) (b := x2)
    refine Sf.i (fun c_10 => ?_) (fun c_10 => ?_)
    · have c_10 := i_le.mp c_10
      have n_11 : ((0 : Int32)).toInt = 0 := rfl
      have z_12 : (0 : Int) ≤ ((0 : Int32)).toInt ∧ ((0 : Int32)).toInt ≤ 1 := ⟨by omega, by omega⟩
      exact Sf.ok z_12
    · have c_10 := i_nle c_10
      have n_13 : ((1 : Int32)).toInt = 1 := rfl
      have z_14 : (0 : Int) ≤ ((1 : Int32)).toInt ∧ ((1 : Int32)).toInt ≤ 1 := ⟨by omega, by omega⟩
      exact Sf.ok z_14
set_option maxHeartbeats 2000000 in
theorem sX7_isInside {g : Gm} {x1 : Int32} {x2 : Int32} {x3 : Int32} {x4 : Int32} {x5 : Int32} {M : Mem} (h_M : OKm g M) (hx1 : (0 : Int) ≤ (x1).toInt ∧ (x1).toInt ≤ 8) (hx2 : (-9999 : Int) ≤ (x2).toInt ∧ (x2).toInt ≤ 0) (hx3 : (0 : Int) ≤ (x3).toInt ∧ (x3).toInt ≤ 9999) (hx4 : (-9999 : Int) ≤ (x4).toInt ∧ (x4).toInt ≤ 0) (hx5 : (0 : Int) ≤ (x5).toInt ∧ (x5).toInt ≤ 9999) : Sf (mX7_isInside 135 x1 x2 x3 x4 x5 M) (pI (0) (1)) := by
  unfold mX7_isInside
  refine Sf.k (ok_in (by omega) (by omega)) ?_
  refine Sf.k (ok_in (by omega) (by omega)) ?_
  refine Sf.c (sX7_isCrossing h_M ⟨by omega, by omega⟩ ⟨by omega, by omega⟩) (fun r4 p_1 => ?_)
  obtain ⟨p_1a, p_1b⟩ := p_1
  have n_2 : ((0 : Int32)).toInt = 0 := rfl
  refine Sf.i (fun c_3 => ?_) (fun c_3 => ?_)
  · have c_3 := i_eq.mp c_3
    have n_4 : ((0 : Int32)).toInt = 0 := rfl
    have z_5 : (0 : Int) ≤ ((0 : Int32)).toInt ∧ ((0 : Int32)).toInt ≤ 1 := ⟨by omega, by omega⟩
    exact Sf.ok z_5
  · have c_3 := i_ne c_3
    refine Sf.k (ok_in (by omega) (by omega)) ?_
    refine Sf.k (ok_in (by omega) (by omega)) ?_
    refine Sf.c (sX7_isCrossing h_M ⟨by omega, by omega⟩ ⟨by omega, by omega⟩) (fun r10 p_6 => ?_)
    obtain ⟨p_6a, p_6b⟩ := p_6
    refine Sf.i (fun c_7 => ?_) (fun c_7 => ?_)
    · have c_7 := i_eq.mp c_7
      have n_8 : ((0 : Int32)).toInt = 0 := rfl
      have z_9 : (0 : Int) ≤ ((0 : Int32)).toInt ∧ ((0 : Int32)).toInt ≤ 1 := ⟨by omega, by omega⟩
      exact Sf.ok z_9
    · have c_7 := i_ne c_7
      have n_10 : ((1 : Int32)).toInt = 1 := rfl
      have z_11 : (0 : Int) ≤ ((1 : Int32)).toInt ∧ ((1 : Int32)).toInt ≤ 1 := ⟨by omega, by omega⟩
      exact Sf.ok z_11
set_option maxHeartbeats 2000000 in
theorem sX7_toolOf {g : Gm} {x1 : Int32} {x2 : Int32} {M : Mem} (h_M : OKm g M) (hx1 : (0 : Int) ≤ (x1).toInt ∧ (x1).toInt ≤ 4) (hx2 : (0 : Int) ≤ (x2).toInt ∧ (x2).toInt ≤ 1) : Sf (mX7_toolOf 135 x1 x2 M) (pI (0) (9999)) := by
  unfold mX7_toolOf
  have n_1 : ((39 : Int32)).toInt = 39 := rfl
  have n_2 : ((2 : Int32)).toInt = 2 := rfl
  try have a_3 : (((2 : Int32) * x1)).toInt = 2 * (x1).toInt := i_mulc (by omega) (by omega) (by omega)
  try have a_4 : (((39 : Int32) + ((2 : Int32) * x1))).toInt = ((39 : Int32)).toInt + (((2 : Int32) * x1)).toInt := i_add (by omega) (by omega)
  try have a_5 : ((((39 : Int32) + ((2 : Int32) * x1)) + x2)).toInt = (((39 : Int32) + ((2 : Int32) * x1))).toInt + (x2).toInt := i_add (by omega) (by omega)
  refine Sf.k (ok_in (by omega) (by omega)) ?_
  have b_6 : (0 : Int) ≤ (rd M (135 + 1) (((((39 : Int32) + ((2 : Int32) * x1)) + x2)).toNatClampNeg)).toInt ∧ (rd M (135 + 1) (((((39 : Int32) + ((2 : Int32) * x1)) + x2)).toNatClampNeg)).toInt ≤ 9999 := h_M.ri 39 48 (by decide +kernel) (by omega) (by omega)
  have z_7 : (0 : Int) ≤ ((rd M (135 + 1) (((((39 : Int32) + ((2 : Int32) * x1)) + x2)).toNatClampNeg))).toInt ∧ ((rd M (135 + 1) (((((39 : Int32) + ((2 : Int32) * x1)) + x2)).toNatClampNeg))).toInt ≤ 9999 := ⟨by omega, by omega⟩
  exact Sf.ok z_7
set_option maxHeartbeats 2000000 in
theorem sX7_hitsBeam {g : Gm} {x1 : Int32} {M : Mem} (h_M : OKm g M) (hx1 : (0 : Int) ≤ (x1).toInt ∧ (x1).toInt ≤ 8) : Sf (mX7_hitsBeam 135 x1 M) (pI (0) (1)) := by
  unfold mX7_hitsBeam
  have n_1 : ((0 : Int32)).toInt = 0 := rfl
  refine Sf.c (sX7_toolOf h_M ⟨by omega, by omega⟩ ⟨by omega, by omega⟩) (fun r2 p_2 => ?_)
  obtain ⟨p_2a, p_2b⟩ := p_2
  have n_3 : ((1 : Int32)).toInt = 1 := rfl
  refine Sf.c (sX7_toolOf h_M ⟨by omega, by omega⟩ ⟨by omega, by omega⟩) (fun r5 p_4 => ?_)
  obtain ⟨p_4a, p_4b⟩ := p_4
  try have a_5 := i_neg (a := r2) (by omega)
  refine Sf.c (sX7_isInside h_M ⟨by omega, by omega⟩ ⟨by omega, by omega⟩ ⟨by omega, by omega⟩ ⟨by omega, by omega⟩ ⟨by omega, by omega⟩) (fun r8 p_6 => ?_)
  obtain ⟨p_6a, p_6b⟩ := p_6
  refine Sf.k (isB_in ⟨by omega, by omega⟩) ?_
  have z_7 : (0 : Int) ≤ (r8).toInt ∧ (r8).toInt ≤ 1 := ⟨by omega, by omega⟩
  exact Sf.ok z_7
set_option maxHeartbeats 2000000 in
theorem sX7_hitsTable {g : Gm} {x1 : Int32} {M : Mem} (h_M : OKm g M) (hx1 : (0 : Int) ≤ (x1).toInt ∧ (x1).toInt ≤ 8) : Sf (mX7_hitsTable 135 x1 M) (pI (0) (1)) := by
  unfold mX7_hitsTable
  have n_1 : ((1 : Int32)).toInt = 1 := rfl
  have n_2 : ((0 : Int32)).toInt = 0 := rfl
  refine Sf.c (sX7_toolOf h_M ⟨by omega, by omega⟩ ⟨by omega, by omega⟩) (fun r2 p_3 => ?_)
  obtain ⟨p_3a, p_3b⟩ := p_3
  refine Sf.c (sX7_toolOf h_M ⟨by omega, by omega⟩ ⟨by omega, by omega⟩) (fun r5 p_4 => ?_)
  obtain ⟨p_4a, p_4b⟩ := p_4
  try have a_5 := i_neg (a := r2) (by omega)
  try have a_6 := i_neg (a := r5) (by omega)
  refine Sf.c (sX7_isInside h_M ⟨by omega, by omega⟩ ⟨by omega, by omega⟩ ⟨by omega, by omega⟩ ⟨by omega, by omega⟩ ⟨by omega, by omega⟩) (fun r8 p_7 => ?_)
  obtain ⟨p_7a, p_7b⟩ := p_7
  refine Sf.k (isB_in ⟨by omega, by omega⟩) ?_
  have z_8 : (0 : Int) ≤ (r8).toInt ∧ (r8).toInt ≤ 1 := ⟨by omega, by omega⟩
  exact Sf.ok z_8
set_option maxHeartbeats 2000000 in
theorem sX7_hitsWing {g : Gm} {x1 : Int32} {M : Mem} (h_M : OKm g M) (hx1 : (0 : Int) ≤ (x1).toInt ∧ (x1).toInt ≤ 8) : Sf (mX7_hitsWing 135 x1 M) (pI (0) (1)) := by
  unfold mX7_hitsWing
  have n_1 : ((2 : Int32)).toInt = 2 := rfl
  have n_2 : ((0 : Int32)).toInt = 0 := rfl
  refine Sf.c (sX7_toolOf h_M ⟨by omega, by omega⟩ ⟨by omega, by omega⟩) (fun r2 p_3 => ?_)
  obtain ⟨p_3a, p_3b⟩ := p_3
  have n_4 : ((1 : Int32)).toInt = 1 := rfl
  refine Sf.c (sX7_toolOf h_M ⟨by omega, by omega⟩ ⟨by omega, by omega⟩) (fun r5 p_5 => ?_)
  obtain ⟨p_5a, p_5b⟩ := p_5
  refine Sf.c (sX7_isInside h_M ⟨by omega, by omega⟩ ⟨by omega, by omega⟩ ⟨by omega, by omega⟩ ⟨by omega, by omega⟩ ⟨by omega, by omega⟩) (fun r8 p_6 => ?_)
  obtain ⟨p_6a, p_6b⟩ := p_6
  refine Sf.k (isB_in ⟨by omega, by omega⟩) ?_
  have z_7 : (0 : Int) ≤ (r8).toInt ∧ (r8).toInt ≤ 1 := ⟨by omega, by omega⟩
  exact Sf.ok z_7
set_option maxHeartbeats 2000000 in
theorem sX7_hits {g : Gm} {x1 : Int32} {x2 : Int32} {M : Mem} (h_M : OKm g M) (hx1 : (0 : Int) ≤ (x1).toInt ∧ (x1).toInt ≤ 8) (hx2 : (0 : Int) ≤ (x2).toInt ∧ (x2).toInt ≤ 1) : Sf (mX7_hits 135 x1 x2 M) (pI (0) (1)) := by
  unfold mX7_hits
  refine Sf.c (sX7_hitsBeam h_M ⟨by omega, by omega⟩) (fun r2 p_1 => ?_)
  obtain ⟨p_1a, p_1b⟩ := p_1
  have n_2 : ((0 : Int32)).toInt = 0 := rfl
  refine Sf.i (fun c_3 => ?_) (fun c_3 => ?_)
  · have c_3 := i_eq.mp c_3
    refine Sf.c (sX7_hitsTable h_M ⟨by omega, by omega⟩) (fun r6 p_4 => ?_)
    obtain ⟨p_4a, p_4b⟩ := p_4
    refine Sf.i (fun c_5 => ?_) (fun c_5 => ?_)
    · have c_5 := i_eq.mp c_5
      refine Sf.i (fun c_6 => ?_) (fun c_6 => ?_)
      · have c_6 := i_eq.mp c_6
        have n_7 : ((0 : Int32)).toInt = 0 := rfl
        have z_8 : (0 : Int) ≤ ((0 : Int32)).toInt ∧ ((0 : Int32)).toInt ≤ 1 := ⟨by omega, by omega⟩
        exact Sf.ok z_8
      · have c_6 := i_ne c_6
        refine Sf.c (sX7_hitsWing h_M ⟨by omega, by omega⟩) (fun r11 p_9 => ?_)
        obtain ⟨p_9a, p_9b⟩ := p_9
        refine Sf.i (fun c_10 => ?_) (fun c_10 => ?_)
        · have c_10 := i_eq.mp c_10
          have n_11 : ((0 : Int32)).toInt = 0 := rfl
          have z_12 : (0 : Int) ≤ ((0 : Int32)).toInt ∧ ((0 : Int32)).toInt ≤ 1 := ⟨by omega, by omega⟩
          exact Sf.ok z_12
        · have c_10 := i_ne c_10
          have n_13 : ((1 : Int32)).toInt = 1 := rfl
          have z_14 : (0 : Int) ≤ ((1 : Int32)).toInt ∧ ((1 : Int32)).toInt ≤ 1 := ⟨by omega, by omega⟩
          exact Sf.ok z_14
    · have c_5 := i_ne c_5
      have n_15 : ((1 : Int32)).toInt = 1 := rfl
      have z_16 : (0 : Int) ≤ ((1 : Int32)).toInt ∧ ((1 : Int32)).toInt ≤ 1 := ⟨by omega, by omega⟩
      exact Sf.ok z_16
  · have c_3 := i_ne c_3
    have n_17 : ((1 : Int32)).toInt = 1 := rfl
    have z_18 : (0 : Int) ≤ ((1 : Int32)).toInt ∧ ((1 : Int32)).toInt ≤ 1 := ⟨by omega, by omega⟩
    exact Sf.ok z_18
set_option maxHeartbeats 2000000 in
theorem sX7_overlap {g : Gm} {x0 : Int32} {x1 : Int32} {x2 : Int32} {x3 : Int32} {M : Mem} (h_M : OKm g M) : Sf (mX7_overlap x0 x1 x2 x3 M) (pI (0) (1)) := by
  unfold mX7_overlap
  have m_1 := i_max (a := x0) (b := x1)
  have m_2 := i_max (a := x2) (b := x3)
  have m_3 := i_min (a := (imax x0 x1)) (b := (imax x2 x3))
  have m_4 := i_min (a := x0) (b := x1)
  have m_5 := i_min (a := x2) (b := x3)
  have m_6 := i_max (a := (imin x0 x1)) (b := (imin x2 x3))
  refine Sf.i (fun c_7 => ?_) (fun c_7 => ?_)
  · have c_7 := i_lt.mp c_7
    have n_8 : ((0 : Int32)).toInt = 0 := rfl
    have z_9 : (0 : Int) ≤ ((0 : Int32)).toInt ∧ ((0 : Int32)).toInt ≤ 1 := ⟨by omega, by omega⟩
    exact Sf.ok z_9
  · have c_7 := i_nlt c_7
    have n_10 : ((1 : Int32)).toInt = 1 := rfl
    have z_11 : (0 : Int) ≤ ((1 : Int32)).toInt ∧ ((1 : Int32)).toInt ≤ 1 := ⟨by omega, by omega⟩
    exact Sf.ok z_11
set_option maxHeartbeats 2000000 in
theorem sX7_isCrossed_b97 {g : Gm} {M : Mem} {ih4 : Int32 → Int32 → Option Int32} {ih18 : Int32 → Int32 → Int32 → Option Int32} {x2 : Int32} {x3 : Int32} {y0 : Int32} {d4 : Nat} {d18 : Nat} (h_M : OKm g M) (hx2 : (0 : Int) ≤ (x2).toInt ∧ (x2).toInt ≤ 8) (hx3 : (2 : Int) ≤ (x3).toInt ∧ (x3).toInt ≤ 8) (hy0 : (0 : Int) ≤ (y0).toInt ∧ (y0).toInt ≤ 1) (he0 : (3 : Int) ≤ (rd M (135 + 1) ((((1 : Int32)).toNatClampNeg))).toInt ∧ (rd M (135 + 1) ((((1 : Int32)).toNatClampNeg))).toInt ≤ 9) (hih4 : ∀ (yx1 : Int32) (yx2 : Int32), ((0 : Int) ≤ (yx1).toInt ∧ (yx1).toInt ≤ 1) → ((0 : Int) ≤ (yx2).toInt ∧ (yx2).toInt ≤ 9) → 9 - (yx2).toInt < d4 → Sf (ih4 yx1 yx2) (pI (0) (1))) (hmu4 : 9 - (x2).toInt ≤ d4) (hih18 : ∀ (yx1 : Int32) (yx2 : Int32) (yx3 : Int32), ((0 : Int) ≤ (yx1).toInt ∧ (yx1).toInt ≤ 1) → ((0 : Int) ≤ (yx2).toInt ∧ (yx2).toInt ≤ 8) → ((2 : Int) ≤ (yx3).toInt ∧ (yx3).toInt ≤ 10) → (9 - (yx2).toInt ≤ d4) → 10 - (yx3).toInt < d18 → Sf (ih18 yx1 yx2 yx3) (pI (0) (1))) (hmu18 : 10 - (x3).toInt ≤ d18) : Sf (mX7_isCrossed_b97 135 M ih4 ih18 x2 x3 y0) (pI (0) (1)) := by
  unfold mX7_isCrossed_b97
  have n_1 : ((1 : Int32)).toInt = 1 := rfl
  try have a_2 : ((x3 + (1 : Int32))).toInt = (x3).toInt + ((1 : Int32)).toInt := i_add (by omega) (by omega)
  refine Sf.b (fun x3_98 e_x3_98 => ?_)
  have d_x3_98 := congrArg Int32.toInt e_x3_98
  exact (hih18 _ _ _ ⟨by omega, by omega⟩ ⟨by omega, by omega⟩ ⟨by omega, by omega⟩ (by omega) (by omega))
set_option maxHeartbeats 2000000 in
theorem sX7_isCrossed_b92 {g : Gm} {M : Mem} {ih4 : Int32 → Int32 → Option Int32} {ih18 : Int32 → Int32 → Int32 → Option Int32} {x2 : Int32} {x3 : Int32} {d4 : Nat} {d18 : Nat} (h_M : OKm g M) (hx2 : (0 : Int) ≤ (x2).toInt ∧ (x2).toInt ≤ 8) (hx3 : (2 : Int) ≤ (x3).toInt ∧ (x3).toInt ≤ 8) (he0 : (3 : Int) ≤ (rd M (135 + 1) ((((1 : Int32)).toNatClampNeg))).toInt ∧ (rd M (135 + 1) ((((1 : Int32)).toNatClampNeg))).toInt ≤ 9) (hih4 : ∀ (yx1 : Int32) (yx2 : Int32), ((0 : Int) ≤ (yx1).toInt ∧ (yx1).toInt ≤ 1) → ((0 : Int) ≤ (yx2).toInt ∧ (yx2).toInt ≤ 9) → 9 - (yx2).toInt < d4 → Sf (ih4 yx1 yx2) (pI (0) (1))) (hmu4 : 9 - (x2).toInt ≤ d4) (hih18 : ∀ (yx1 : Int32) (yx2 : Int32) (yx3 : Int32), ((0 : Int) ≤ (yx1).toInt ∧ (yx1).toInt ≤ 1) → ((0 : Int) ≤ (yx2).toInt ∧ (yx2).toInt ≤ 8) → ((2 : Int) ≤ (yx3).toInt ∧ (yx3).toInt ≤ 10) → (9 - (yx2).toInt ≤ d4) → 10 - (yx3).toInt < d18 → Sf (ih18 yx1 yx2 yx3) (pI (0) (1))) (hmu18 : 10 - (x3).toInt ≤ d18) : Sf (mX7_isCrossed_b92 135 M ih4 ih18 x2 x3) (pI (0) (1)) := by
  unfold mX7_isCrossed_b92
  have n_1 : ((1 : Int32)).toInt = 1 := rfl
  have b_2 : (0 : Int) ≤ (rd M (135 + 1) (((1 : Int32)).toNatClampNeg)).toInt ∧ (rd M (135 + 1) (((1 : Int32)).toNatClampNeg)).toInt ≤ 9 := h_M.ri 1 1 (by decide +kernel) (by omega) (by omega)
  exact (sX7_isCrossed_b97 h_M ⟨by omega, by omega⟩ ⟨by omega, by omega⟩ ⟨by omega, by omega⟩ ⟨by omega, by omega⟩ hih4 (by omega) hih18 (by omega))
set_option maxHeartbeats 2000000 in
theorem sX7_isCrossed_b96 {g : Gm} {M : Mem} {ih4 : Int32 → Int32 → Option Int32} {ih18 : Int32 → Int32 → Int32 → Option Int32} {x2 : Int32} {x3 : Int32} {d4 : Nat} {d18 : Nat} (h_M : OKm g M) (hx2 : (0 : Int) ≤ (x2).toInt ∧ (x2).toInt ≤ 8) (hx3 : (2 : Int) ≤ (x3).toInt ∧ (x3).toInt ≤ 8) (he0 : (3 : Int) ≤ (rd M (135 + 1) ((((1 : Int32)).toNatClampNeg))).toInt ∧ (rd M (135 + 1) ((((1 : Int32)).toNatClampNeg))).toInt ≤ 9) (hih4 : ∀ (yx1 : Int32) (yx2 : Int32), ((0 : Int) ≤ (yx1).toInt ∧ (yx1).toInt ≤ 1) → ((0 : Int) ≤ (yx2).toInt ∧ (yx2).toInt ≤ 9) → 9 - (yx2).toInt < d4 → Sf (ih4 yx1 yx2) (pI (0) (1))) (hmu4 : 9 - (x2).toInt ≤ d4) (hih18 : ∀ (yx1 : Int32) (yx2 : Int32) (yx3 : Int32), ((0 : Int) ≤ (yx1).toInt ∧ (yx1).toInt ≤ 1) → ((0 : Int) ≤ (yx2).toInt ∧ (yx2).toInt ≤ 8) → ((2 : Int) ≤ (yx3).toInt ∧ (yx3).toInt ≤ 10) → (9 - (yx2).toInt ≤ d4) → 10 - (yx3).toInt < d18 → Sf (ih18 yx1 yx2 yx3) (pI (0) (1))) (hmu18 : 10 - (x3).toInt ≤ d18) : Sf (mX7_isCrossed_b96 135 M ih4 ih18 x2 x3) (pI (0) (1)) := by
  unfold mX7_isCrossed_b96
  have n_1 : ((0 : Int32)).toInt = 0 := rfl
  have n_3 : ((1 : Int32)).toInt = 1 := rfl
  have b_2 : (0 : Int) ≤ (rd M (135 + 1) (((1 : Int32)).toNatClampNeg)).toInt ∧ (rd M (135 + 1) (((1 : Int32)).toNatClampNeg)).toInt ≤ 9 := h_M.ri 1 1 (by decide +kernel) (by omega) (by omega)
  exact (sX7_isCrossed_b97 h_M ⟨by omega, by omega⟩ ⟨by omega, by omega⟩ ⟨by omega, by omega⟩ ⟨by omega, by omega⟩ hih4 (by omega) hih18 (by omega))
set_option maxHeartbeats 2000000 in
theorem sX7_isCrossed_b18 {g : Gm} {M : Mem} {ih4 : Int32 → Int32 → Option Int32} {ih18 : Int32 → Int32 → Int32 → Option Int32} {x1 : Int32} {x2 : Int32} {x3 : Int32} {d4 : Nat} {d18 : Nat} (h_M : OKm g M) (hx1 : (0 : Int) ≤ (x1).toInt ∧ (x1).toInt ≤ 1) (hx2 : (0 : Int) ≤ (x2).toInt ∧ (x2).toInt ≤ 8) (hx3 : (2 : Int) ≤ (x3).toInt ∧ (x3).toInt ≤ 10) (he0 : (1 : Int) ≤ (rd M (135 + 1) ((((1 : Int32)).toNatClampNeg))).toInt ∧ (rd M (135 + 1) ((((1 : Int32)).toNatClampNeg))).toInt ≤ 9) (hih4 : ∀ (yx1 : Int32) (yx2 : Int32), ((0 : Int) ≤ (yx1).toInt ∧ (yx1).toInt ≤ 1) → ((0 : Int) ≤ (yx2).toInt ∧ (yx2).toInt ≤ 9) → 9 - (yx2).toInt < d4 → Sf (ih4 yx1 yx2) (pI (0) (1))) (hmu4 : 9 - (x2).toInt ≤ d4) (hih18 : ∀ (yx1 : Int32) (yx2 : Int32) (yx3 : Int32), ((0 : Int) ≤ (yx1).toInt ∧ (yx1).toInt ≤ 1) → ((0 : Int) ≤ (yx2).toInt ∧ (yx2).toInt ≤ 8) → ((2 : Int) ≤ (yx3).toInt ∧ (yx3).toInt ≤ 10) → (9 - (yx2).toInt ≤ d4) → 10 - (yx3).toInt < d18 → Sf (ih18 yx1 yx2 yx3) (pI (0) (1))) (hmu18 : 10 - (x3).toInt ≤ d18) : Sf (mX7_isCrossed_b18 135 M ih4 ih18 x1 x2 x3) (pI (0) (1)) := by
  unfold mX7_isCrossed_b18
  have n_1 : ((1 : Int32)).toInt = 1 := rfl
  refine Sf.k (ok_in (by omega) (by omega)) ?_
  have b_2 : (0 : Int) ≤ (rd M (135 + 1) (((1 : Int32)).toNatClampNeg)).toInt ∧ (rd M (135 + 1) (((1 : Int32)).toNatClampNeg)).toInt ≤ 9 := h_M.ri 1 1 (by decide +kernel) (by omega) (by omega)
  refine Sf.i (fun c_3 => ?_) (fun c_3 => ?_)
  · have c_3 := i_le.mp c_3
    try have a_4 : ((x2 + (1 : Int32))).toInt = (x2).toInt + ((1 : Int32)).toInt := i_add (by omega) (by omega)
    refine Sf.b (fun x2_104 e_x2_104 => ?_)
    have d_x2_104 := congrArg Int32.toInt e_x2_104
    exact (hih4 _ _ ⟨by omega, by omega⟩ ⟨by omega, by omega⟩ (by omega))
  · have c_3 := i_nle c_3
    have n_5 : ((0 : Int32)).toInt = 0 := rfl
    refine Sf.i (fun c_6 => ?_) (fun c_6 => ?_)
    · have c_6 := i_eq.mp c_6
      refine Sf.k (ok_in (by omega) (by omega)) ?_
      refine Sf.k (ok_in (by omega) (by omega)) ?_
      refine Sf.k (ok_in (by omega) (by omega)) ?_
      refine Sf.k (ok_in (by omega) (by omega)) ?_
      refine Sf.c (sX7_overlap h_M) (fun r15 p_7 => ?_)
      obtain ⟨p_7a, p_7b⟩ := p_7
      refine Sf.i (fun c_8 => ?_) (fun c_8 => ?_)
      · have c_8 := i_eq.mp c_8
        exact (sX7_isCrossed_b96 h_M ⟨by omega, by omega⟩ ⟨by omega, by omega⟩ ⟨by omega, by omega⟩ hih4 (by omega) hih18 (by omega))
      · have c_8 := i_ne c_8
        refine Sf.k (ok_in (by omega) (by omega)) ?_
        refine Sf.k (ok_in (by omega) (by omega)) ?_
        refine Sf.k (ok_in (by omega) (by omega)) ?_
        refine Sf.k (ok_in (by omega) (by omega)) ?_
        refine Sf.c (sX7_overlap h_M) (fun r23 p_9 => ?_)
        obtain ⟨p_9a, p_9b⟩ := p_9
        refine Sf.i (fun c_10 => ?_) (fun c_10 => ?_)
        · have c_10 := i_eq.mp c_10
          exact (sX7_isCrossed_b96 h_M ⟨by omega, by omega⟩ ⟨by omega, by omega⟩ ⟨by omega, by omega⟩ hih4 (by omega) hih18 (by omega))
        · have c_10 := i_ne c_10
          exact (sX7_isCrossed_b92 h_M ⟨by omega, by omega⟩ ⟨by omega, by omega⟩ ⟨by omega, by omega⟩ hih4 (by omega) hih18 (by omega))
    · have c_6 := i_ne c_6
      exact (sX7_isCrossed_b92 h_M ⟨by omega, by omega⟩ ⟨by omega, by omega⟩ ⟨by omega, by omega⟩ hih4 (by omega) hih18 (by omega))
theorem sX7_isCrossed_l18_n {g : Gm}  {M : Mem} {ih4 : Int32 → Int32 → Option Int32} {d4 : Nat} (h_M : OKm g M) (he0 : (1 : Int) ≤ (rd M (135 + 1) ((((1 : Int32)).toNatClampNeg))).toInt ∧ (rd M (135 + 1) ((((1 : Int32)).toNatClampNeg))).toInt ≤ 9) (hih4 : ∀ (yx1 : Int32) (yx2 : Int32), ((0 : Int) ≤ (yx1).toInt ∧ (yx1).toInt ≤ 1) → ((0 : Int) ≤ (yx2).toInt ∧ (yx2).toInt ≤ 9) → 9 - (yx2).toInt < d4 → Sf (ih4 yx1 yx2) (pI (0) (1))) : ∀ (n : Nat) (x1 : Int32) (x2 : Int32) (x3 : Int32) (hx1 : (0 : Int) ≤ (x1).toInt ∧ (x1).toInt ≤ 1) (hx2 : (0 : Int) ≤ (x2).toInt ∧ (x2).toInt ≤ 8) (hx3 : (2 : Int) ≤ (x3).toInt ∧ (x3).toInt ≤ 10)  (hmu4 : 9 - (x2).toInt ≤ d4) (hmu : 10 - (x3).toInt < n), Sf (mX7_isCrossed_l18 135 M ih4 n x1 x2 x3) (pI (0) (1)) := by
  intro n
  induction n with
  | zero => intro x1 x2 x3 hx1 hx2 hx3 hmu4 hmu; exfalso; omega
  | succ n IH => intro x1 x2 x3 hx1 hx2 hx3 hmu4 hmu; exact sX7_isCrossed_b18  h_M hx1 hx2 hx3 he0  hih4 hmu4 IH (by omega)
theorem sX7_isCrossed_l18 {g : Gm}  {M : Mem} {x1 : Int32} {x2 : Int32} {x3 : Int32} {ih4 : Int32 → Int32 → Option Int32} {d4 : Nat} (h_M : OKm g M) (hx1 : (0 : Int) ≤ (x1).toInt ∧ (x1).toInt ≤ 1) (hx2 : (0 : Int) ≤ (x2).toInt ∧ (x2).toInt ≤ 8) (hx3 : (2 : Int) ≤ (x3).toInt ∧ (x3).toInt ≤ 10) (he0 : (1 : Int) ≤ (rd M (135 + 1) ((((1 : Int32)).toNatClampNeg))).toInt ∧ (rd M (135 + 1) ((((1 : Int32)).toNatClampNeg))).toInt ≤ 9)  (hih4 : ∀ (yx1 : Int32) (yx2 : Int32), ((0 : Int) ≤ (yx1).toInt ∧ (yx1).toInt ≤ 1) → ((0 : Int) ≤ (yx2).toInt ∧ (yx2).toInt ≤ 9) → 9 - (yx2).toInt < d4 → Sf (ih4 yx1 yx2) (pI (0) (1))) (hmu4 : 9 - (x2).toInt ≤ d4) (hmu : 10 - (x3).toInt < 5000) : Sf (mX7_isCrossed_l18 135 M ih4 5000 x1 x2 x3) (pI (0) (1)) :=
  sX7_isCrossed_l18_n  h_M he0 hih4 5000 _ _ _ hx1 hx2 hx3  hmu4 hmu
set_option maxHeartbeats 2000000 in
theorem sX7_isCrossed_b4 {g : Gm} {M : Mem} {ih4 : Int32 → Int32 → Option Int32} {x1 : Int32} {x2 : Int32} {d4 : Nat} (h_M : OKm g M) (hx1 : (0 : Int) ≤ (x1).toInt ∧ (x1).toInt ≤ 1) (hx2 : (0 : Int) ≤ (x2).toInt ∧ (x2).toInt ≤ 9) (hih4 : ∀ (yx1 : Int32) (yx2 : Int32), ((0 : Int) ≤ (yx1).toInt ∧ (yx1).toInt ≤ 1) → ((0 : Int) ≤ (yx2).toInt ∧ (yx2).toInt ≤ 9) → 9 - (yx2).toInt < d4 → Sf (ih4 yx1 yx2) (pI (0) (1))) (hmu4 : 9 - (x2).toInt ≤ d4) : Sf (mX7_isCrossed_b4 135 M ih4 x1 x2) (pI (0) (1)) := by
  unfold mX7_isCrossed_b4
  have n_1 : ((1 : Int32)).toInt = 1 := rfl
  refine Sf.k (ok_in (by omega) (by omega)) ?_
  have b_2 : (0 : Int) ≤ (rd M (135 + 1) (((1 : Int32)).toNatClampNeg)).toInt ∧ (rd M (135 + 1) (((1 : Int32)).toNatClampNeg)).toInt ≤ 9 := h_M.ri 1 1 (by decide +kernel) (by omega) (by omega)
  refine Sf.i (fun c_3 => ?_) (fun c_3 => ?_)
  · have c_3 := i_le.mp c_3
    refine Sf.k (isB_in ⟨by omega, by omega⟩) ?_
    have z_4 : (0 : Int) ≤ (x1).toInt ∧ (x1).toInt ≤ 1 := ⟨by omega, by omega⟩
    exact Sf.ok z_4
  · have c_3 := i_nle c_3
    have n_5 : ((2 : Int32)).toInt = 2 := rfl
    try have a_6 : ((x2 + (2 : Int32))).toInt = (x2).toInt + ((2 : Int32)).toInt := i_add (by omega) (by omega)
    refine Sf.b (fun x3_17 e_x3_17 => ?_)
    have d_x3_17 := congrArg Int32.toInt e_x3_17
    exact (sX7_isCrossed_l18 h_M ⟨by omega, by omega⟩ ⟨by omega, by omega⟩ ⟨by omega, by omega⟩ ⟨by omega, by omega⟩ hih4 (by omega) (by omega))
theorem sX7_isCrossed_l4_n {g : Gm}  {M : Mem}  (h_M : OKm g M)   : ∀ (n : Nat) (x1 : Int32) (x2 : Int32) (hx1 : (0 : Int) ≤ (x1).toInt ∧ (x1).toInt ≤ 1) (hx2 : (0 : Int) ≤ (x2).toInt ∧ (x2).toInt ≤ 9)   (hmu : 9 - (x2).toInt < n), Sf (mX7_isCrossed_l4 135 M n x1 x2) (pI (0) (1)) := by
  intro n
  induction n with
  | zero => intro x1 x2 hx1 hx2 hmu; exfalso; omega
  | succ n IH => intro x1 x2 hx1 hx2 hmu; exact sX7_isCrossed_b4  h_M hx1 hx2    IH (by omega)
theorem sX7_isCrossed_l4 {g : Gm}  {M : Mem} {x1 : Int32} {x2 : Int32}  (h_M : OKm g M) (hx1 : (0 : Int) ≤ (x1).toInt ∧ (x1).toInt ≤ 1) (hx2 : (0 : Int) ≤ (x2).toInt ∧ (x2).toInt ≤ 9)    (hmu : 9 - (x2).toInt < 5000) : Sf (mX7_isCrossed_l4 135 M 5000 x1 x2) (pI (0) (1)) :=
  sX7_isCrossed_l4_n  h_M   5000 _ _ hx1 hx2   hmu
set_option maxHeartbeats 2000000 in
theorem sX7_isCrossed {g : Gm} {M : Mem} (h_M : OKm g M) : Sf (mX7_isCrossed 135 M) (pI (0) (1)) := by
  unfold mX7_isCrossed
  have n_1 : ((0 : Int32)).toInt = 0 := rfl
  exact (sX7_isCrossed_l4 h_M ⟨by omega, by omega⟩ ⟨by omega, by omega⟩ (by omega))
set_option maxHeartbeats 2000000 in
theorem sX7_gaugeLaid_b43 {g : Gm} {M : Mem} {ih5 : Int32 → Int32 → Int32 → Int32 → Option Int32} {x1 : Int32} {x2 : Int32} {x4 : Int32} {y0 : Int32} {d5 : Nat} (h_M : OKm g M) (hx1 : (0 : Int) ≤ (x1).toInt ∧ (x1).toInt ≤ 7) (hx2 : (0 : Int) ≤ (x2).toInt ∧ (x2).toInt ≤ 1) (hx4 : (0 : Int) ≤ (x4).toInt ∧ (x4).toInt ≤ 8) (hy0 : (0 : Int) ≤ (y0).toInt ∧ (y0).toInt ≤ 2147483647) (he0 : (1 : Int) ≤ (rd M (135 + 1) ((((1 : Int32)).toNatClampNeg))).toInt ∧ (rd M (135 + 1) ((((1 : Int32)).toNatClampNeg))).toInt ≤ 9) (hih5 : ∀ (yx1 : Int32) (yx2 : Int32) (yx3 : Int32) (yx4 : Int32), ((0 : Int) ≤ (yx1).toInt ∧ (yx1).toInt ≤ 7) → ((0 : Int) ≤ (yx2).toInt ∧ (yx2).toInt ≤ 1) → ((0 : Int) ≤ (yx3).toInt ∧ (yx3).toInt ≤ 2147483647) → ((0 : Int) ≤ (yx4).toInt ∧ (yx4).toInt ≤ 9) → 9 - (yx4).toInt < d5 → Sf (ih5 yx1 yx2 yx3 yx4) (pI (0) (2147483647))) (hmu5 : 9 - (x4).toInt ≤ d5) : Sf (mX7_gaugeLaid_b43 135 M ih5 x1 x2 x4 y0) (pI (0) (2147483647)) := by
  unfold mX7_gaugeLaid_b43
  have n_1 : ((1 : Int32)).toInt = 1 := rfl
  try have a_2 : ((x4 + (1 : Int32))).toInt = (x4).toInt + ((1 : Int32)).toInt := i_add (by omega) (by omega)
  refine Sf.b (fun x4_44 e_x4_44 => ?_)
  have d_x4_44 := congrArg Int32.toInt e_x4_44
  have g_3 := i_rng y0
  exact (hih5 _ _ _ _ ⟨by omega, by omega⟩ ⟨by omega, by omega⟩ ⟨by omega, by omega⟩ ⟨by omega, by omega⟩ (by omega))
set_option maxHeartbeats 2000000 in
theorem sX7_gaugeLaid_b5 {g : Gm} {M : Mem} {ih5 : Int32 → Int32 → Int32 → Int32 → Option Int32} {x1 : Int32} {x2 : Int32} {x3 : Int32} {x4 : Int32} {d5 : Nat} (h_M : OKm g M) (hx1 : (0 : Int) ≤ (x1).toInt ∧ (x1).toInt ≤ 7) (hx2 : (0 : Int) ≤ (x2).toInt ∧ (x2).toInt ≤ 1) (hx3 : (0 : Int) ≤ (x3).toInt ∧ (x3).toInt ≤ 2147483647) (hx4 : (0 : Int) ≤ (x4).toInt ∧ (x4).toInt ≤ 9) (hih5 : ∀ (yx1 : Int32) (yx2 : Int32) (yx3 : Int32) (yx4 : Int32), ((0 : Int) ≤ (yx1).toInt ∧ (yx1).toInt ≤ 7) → ((0 : Int) ≤ (yx2).toInt ∧ (yx2).toInt ≤ 1) → ((0 : Int) ≤ (yx3).toInt ∧ (yx3).toInt ≤ 2147483647) → ((0 : Int) ≤ (yx4).toInt ∧ (yx4).toInt ≤ 9) → 9 - (yx4).toInt < d5 → Sf (ih5 yx1 yx2 yx3 yx4) (pI (0) (2147483647))) (hmu5 : 9 - (x4).toInt ≤ d5) : Sf (mX7_gaugeLaid_b5 135 M ih5 x1 x2 x3 x4) (pI (0) (2147483647)) := by
  unfold mX7_gaugeLaid_b5
  have n_1 : ((1 : Int32)).toInt = 1 := rfl
  refine Sf.k (ok_in (by omega) (by omega)) ?_
  have b_2 : (0 : Int) ≤ (rd M (135 + 1) (((1 : Int32)).toNatClampNeg)).toInt ∧ (rd M (135 + 1) (((1 : Int32)).toNatClampNeg)).toInt ≤ 9 := h_M.ri 1 1 (by decide +kernel) (by omega) (by omega)
  refine Sf.i (fun c_3 => ?_) (fun c_3 => ?_)
  · have c_3 := i_le.mp c_3
    have z_4 : (0 : Int) ≤ (x3).toInt ∧ (x3).toInt ≤ 2147483647 := ⟨by omega, by omega⟩
    exact Sf.ok z_4
  · have c_3 := i_nle c_3
    refine Sf.c (sX7_isClamped h_M ⟨by omega, by omega⟩ ⟨by omega, by omega⟩ ⟨by omega, by omega⟩) (fun r4 p_5 => ?_)
    obtain ⟨p_5a, p_5b⟩ := p_5
    have n_6 : ((0 : Int32)).toInt = 0 := rfl
    refine Sf.i (fun c_7 => ?_) (fun c_7 => ?_)
    · have c_7 := i_eq.mp c_7
      have g_8 := i_rng x3
      exact (sX7_gaugeLaid_b43 h_M ⟨by omega, by omega⟩ ⟨by omega, by omega⟩ ⟨by omega, by omega⟩ ⟨by omega, by omega⟩ ⟨by omega, by omega⟩ hih5 (by omega))
    · have c_7 := i_ne c_7
      refine Sf.k (ok_in (by omega) (by omega)) ?_
      have m_9 := i_max (a := x3) (b := (-(rd M (135 + 8) ((x4).toNatClampNeg))))
      have g_10 := i_rng (imax x3 (-(rd M (135 + 8) ((x4).toNatClampNeg))))
      exact (sX7_gaugeLaid_b43 h_M ⟨by omega, by omega⟩ ⟨by omega, by omega⟩ ⟨by omega, by omega⟩ ⟨by omega, by omega⟩ ⟨by omega, by omega⟩ hih5 (by omega))
theorem sX7_gaugeLaid_l5_n {g : Gm}  {M : Mem}  (h_M : OKm g M)   : ∀ (n : Nat) (x1 : Int32) (x2 : Int32) (x3 : Int32) (x4 : Int32) (hx1 : (0 : Int) ≤ (x1).toInt ∧ (x1).toInt ≤ 7) (hx2 : (0 : Int) ≤ (x2).toInt ∧ (x2).toInt ≤ 1) (hx3 : (0 : Int) ≤ (x3).toInt ∧ (x3).toInt ≤ 2147483647) (hx4 : (0 : Int) ≤ (x4).toInt ∧ (x4).toInt ≤ 9)   (hmu : 9 - (x4).toInt < n), Sf (mX7_gaugeLaid_l5 135 M n x1 x2 x3 x4) (pI (0) (2147483647)) := by
  intro n
  induction n with
  | zero => intro x1 x2 x3 x4 hx1 hx2 hx3 hx4 hmu; exfalso; omega
  | succ n IH => intro x1 x2 x3 x4 hx1 hx2 hx3 hx4 hmu; exact sX7_gaugeLaid_b5  h_M hx1 hx2 hx3 hx4    IH (by omega)
theorem sX7_gaugeLaid_l5 {g : Gm}  {M : Mem} {x1 : Int32} {x2 : Int32} {x3 : Int32} {x4 : Int32}  (h_M : OKm g M) (hx1 : (0 : Int) ≤ (x1).toInt ∧ (x1).toInt ≤ 7) (hx2 : (0 : Int) ≤ (x2).toInt ∧ (x2).toInt ≤ 1) (hx3 : (0 : Int) ≤ (x3).toInt ∧ (x3).toInt ≤ 2147483647) (hx4 : (0 : Int) ≤ (x4).toInt ∧ (x4).toInt ≤ 9)    (hmu : 9 - (x4).toInt < 5000) : Sf (mX7_gaugeLaid_l5 135 M 5000 x1 x2 x3 x4) (pI (0) (2147483647)) :=
  sX7_gaugeLaid_l5_n  h_M   5000 _ _ _ _ hx1 hx2 hx3 hx4   hmu
set_option maxHeartbeats 2000000 in
theorem sX7_gaugeLaid {g : Gm} {x1 : Int32} {x2 : Int32} {M : Mem} (h_M : OKm g M) (hx1 : (0 : Int) ≤ (x1).toInt ∧ (x1).toInt ≤ 7) (hx2 : (0 : Int) ≤ (x2).toInt ∧ (x2).toInt ≤ 1) : Sf (mX7_gaugeLaid 135 x1 x2 M) (pI (0) (2147483647)) := by
  unfold mX7_gaugeLaid
  have n_1 : ((0 : Int32)).toInt = 0 := rfl
  have g_2 := i_rng (0 : Int32)
  exact (sX7_gaugeLaid_l5 h_M ⟨by omega, by omega⟩ ⟨by omega, by omega⟩ ⟨by omega, by omega⟩ ⟨by omega, by omega⟩ (by omega))
set_option maxHeartbeats 2000000 in
theorem sX7_hittingLaid_b73 {g : Gm} {M : Mem} {ih6 : Int32 → Int32 → Int32 → Int32 → Int32 → Int32 → Option Int32} {x1 : Int32} {x2 : Int32} {x3 : Int32} {x4 : Int32} {x6 : Int32} {y0 : Int32} {y1 : Int32} {d6 : Nat} (h_M : OKm g M) (hx1 : (0 : Int) ≤ (x1).toInt ∧ (x1).toInt ≤ 7) (hx2 : (0 : Int) ≤ (x2).toInt ∧ (x2).toInt ≤ 1) (hx3 : (0 : Int) ≤ (x3).toInt ∧ (x3).toInt ≤ 1) (hx4 : (0 : Int) ≤ (x4).toInt ∧ (x4).toInt ≤ 1) (hx6 : (0 : Int) ≤ (x6).toInt ∧ (x6).toInt ≤ 8) (hy0 : (0 : Int) ≤ (y0).toInt ∧ (y0).toInt ≤ 4095) (hy1 : (0 : Int) ≤ (y1).toInt ∧ (y1).toInt ≤ 256) (he0 : (1 : Int) ≤ (rd M (135 + 1) ((((1 : Int32)).toNatClampNeg))).toInt ∧ (rd M (135 + 1) ((((1 : Int32)).toNatClampNeg))).toInt ≤ 9) (hih6 : ∀ (yx1 : Int32) (yx2 : Int32) (yx3 : Int32) (yx4 : Int32) (yx5 : Int32) (yx6 : Int32), ((0 : Int) ≤ (yx1).toInt ∧ (yx1).toInt ≤ 7) → ((0 : Int) ≤ (yx2).toInt ∧ (yx2).toInt ≤ 1) → ((0 : Int) ≤ (yx3).toInt ∧ (yx3).toInt ≤ 1) → ((0 : Int) ≤ (yx4).toInt ∧ (yx4).toInt ≤ 1) → ((0 : Int) ≤ (yx5).toInt ∧ (yx5).toInt ≤ 4095) → ((0 : Int) ≤ (yx6).toInt ∧ (yx6).toInt ≤ 9) → 9 - (yx6).toInt < d6 → Sf (ih6 yx1 yx2 yx3 yx4 yx5 yx6) (pI (0) (4095))) (hmu6 : 9 - (x6).toInt ≤ d6) : Sf (mX7_hittingLaid_b73 135 M ih6 x1 x2 x3 x4 x6 y0 y1) (pI (0) (4095)) := by
  unfold mX7_hittingLaid_b73
  try have a_1 : 0 ≤ ((y0 ||| y1)).toInt ∧ ((y0 ||| y1)).toInt < 4096 := i_or 12 (by decide) ⟨by omega, by omega⟩ ⟨by omega, by omega⟩
  refine Sf.b (fun x5_74 e_x5_74 => ?_)
  have d_x5_74 := congrArg Int32.toInt e_x5_74
  have n_2 : ((1 : Int32)).toInt = 1 := rfl
  try have a_3 : ((x6 + (1 : Int32))).toInt = (x6).toInt + ((1 : Int32)).toInt := i_add (by omega) (by omega)
  refine Sf.b (fun x6_76 e_x6_76 => ?_)
  have d_x6_76 := congrArg Int32.toInt e_x6_76
  exact (hih6 _ _ _ _ _ _ ⟨by omega, by omega⟩ ⟨by omega, by omega⟩ ⟨by omega, by omega⟩ ⟨by omega, by omega⟩ ⟨by omega, by omega⟩ ⟨by omega, by omega⟩ (by omega))
set_option maxHeartbeats 2000000 in
theorem sX7_hittingLaid_b72 {g : Gm} {M : Mem} {ih6 : Int32 → Int32 → Int32 → Int32 → Int32 → Int32 → Option Int32} {x1 : Int32} {x2 : Int32} {x3 : Int32} {x4 : Int32} {x6 : Int32} {y0 : Int32} {d6 : Nat} (h_M : OKm g M) (hx1 : (0 : Int) ≤ (x1).toInt ∧ (x1).toInt ≤ 7) (hx2 : (0 : Int) ≤ (x2).toInt ∧ (x2).toInt ≤ 1) (hx3 : (0 : Int) ≤ (x3).toInt ∧ (x3).toInt ≤ 1) (hx4 : (0 : Int) ≤ (x4).toInt ∧ (x4).toInt ≤ 1) (hx6 : (0 : Int) ≤ (x6).toInt ∧ (x6).toInt ≤ 8) (hy0 : (0 : Int) ≤ (y0).toInt ∧ (y0).toInt ≤ 4095) (he0 : (1 : Int) ≤ (rd M (135 + 1) ((((1 : Int32)).toNatClampNeg))).toInt ∧ (rd M (135 + 1) ((((1 : Int32)).toNatClampNeg))).toInt ≤ 9) (hih6 : ∀ (yx1 : Int32) (yx2 : Int32) (yx3 : Int32) (yx4 : Int32) (yx5 : Int32) (yx6 : Int32), ((0 : Int) ≤ (yx1).toInt ∧ (yx1).toInt ≤ 7) → ((0 : Int) ≤ (yx2).toInt ∧ (yx2).toInt ≤ 1) → ((0 : Int) ≤ (yx3).toInt ∧ (yx3).toInt ≤ 1) → ((0 : Int) ≤ (yx4).toInt ∧ (yx4).toInt ≤ 1) → ((0 : Int) ≤ (yx5).toInt ∧ (yx5).toInt ≤ 4095) → ((0 : Int) ≤ (yx6).toInt ∧ (yx6).toInt ≤ 9) → 9 - (yx6).toInt < d6 → Sf (ih6 yx1 yx2 yx3 yx4 yx5 yx6) (pI (0) (4095))) (hmu6 : 9 - (x6).toInt ≤ d6) : Sf (mX7_hittingLaid_b72 135 M ih6 x1 x2 x3 x4 x6 y0) (pI (0) (4095)) := by
  unfold mX7_hittingLaid_b72
  have n_1 : ((0 : Int32)).toInt = 0 := rfl
  have n_3 : ((1 : Int32)).toInt = 1 := rfl
  have b_2 : (0 : Int) ≤ (rd M (135 + 1) (((1 : Int32)).toNatClampNeg)).toInt ∧ (rd M (135 + 1) (((1 : Int32)).toNatClampNeg)).toInt ≤ 9 := h_M.ri 1 1 (by decide +kernel) (by omega) (by omega)
  exact (sX7_hittingLaid_b73 h_M ⟨by omega, by omega⟩ ⟨by omega, by omega⟩ ⟨by omega, by omega⟩ ⟨by omega, by omega⟩ ⟨by omega, by omega⟩ ⟨by omega, by omega⟩ ⟨by omega, by omega⟩ ⟨by omega, by omega⟩ hih6 (by omega))
set_option maxHeartbeats 2000000 in
theorem sX7_hittingLaid_b54 {g : Gm} {M : Mem} {ih6 : Int32 → Int32 → Int32 → Int32 → Int32 → Int32 → Option Int32} {x1 : Int32} {x2 : Int32} {x3 : Int32} {x4 : Int32} {x6 : Int32} {x7 : Int32} {y0 : Int32} {d6 : Nat} (h_M : OKm g M) (hx1 : (0 : Int) ≤ (x1).toInt ∧ (x1).toInt ≤ 7) (hx2 : (0 : Int) ≤ (x2).toInt ∧ (x2).toInt ≤ 1) (hx3 : (0 : Int) ≤ (x3).toInt ∧ (x3).toInt ≤ 1) (hx4 : (0 : Int) ≤ (x4).toInt ∧ (x4).toInt ≤ 1) (hx6 : (0 : Int) ≤ (x6).toInt ∧ (x6).toInt ≤ 8) (hx7 : (0 : Int) ≤ (x7).toInt ∧ (x7).toInt ≤ 1) (hy0 : (0 : Int) ≤ (y0).toInt ∧ (y0).toInt ≤ 4095) (he0 : (1 : Int) ≤ (rd M (135 + 1) ((((1 : Int32)).toNatClampNeg))).toInt ∧ (rd M (135 + 1) ((((1 : Int32)).toNatClampNeg))).toInt ≤ 9) (hih6 : ∀ (yx1 : Int32) (yx2 : Int32) (yx3 : Int32) (yx4 : Int32) (yx5 : Int32) (yx6 : Int32), ((0 : Int) ≤ (yx1).toInt ∧ (yx1).toInt ≤ 7) → ((0 : Int) ≤ (yx2).toInt ∧ (yx2).toInt ≤ 1) → ((0 : Int) ≤ (yx3).toInt ∧ (yx3).toInt ≤ 1) → ((0 : Int) ≤ (yx4).toInt ∧ (yx4).toInt ≤ 1) → ((0 : Int) ≤ (yx5).toInt ∧ (yx5).toInt ≤ 4095) → ((0 : Int) ≤ (yx6).toInt ∧ (yx6).toInt ≤ 9) → 9 - (yx6).toInt < d6 → Sf (ih6 yx1 yx2 yx3 yx4 yx5 yx6) (pI (0) (4095))) (hmu6 : 9 - (x6).toInt ≤ d6) : Sf (mX7_hittingLaid_b54 135 M ih6 x1 x2 x3 x4 x6 x7 y0) (pI (0) (4095)) := by
  unfold mX7_hittingLaid_b54
  refine Sf.c (sX7_hits h_M ⟨by omega, by omega⟩ ⟨by omega, by omega⟩) (fun r12 p_1 => ?_)
  obtain ⟨p_1a, p_1b⟩ := p_1
  have n_2 : ((0 : Int32)).toInt = 0 := rfl
  refine Sf.i (fun c_3 => ?_) (fun c_3 => ?_)
  · have c_3 := i_eq.mp c_3
    have n_5 : ((1 : Int32)).toInt = 1 := rfl
    have b_4 : (0 : Int) ≤ (rd M (135 + 1) (((1 : Int32)).toNatClampNeg)).toInt ∧ (rd M (135 + 1) (((1 : Int32)).toNatClampNeg)).toInt ≤ 9 := h_M.ri 1 1 (by decide +kernel) (by omega) (by omega)
    exact (sX7_hittingLaid_b72 h_M ⟨by omega, by omega⟩ ⟨by omega, by omega⟩ ⟨by omega, by omega⟩ ⟨by omega, by omega⟩ ⟨by omega, by omega⟩ ⟨by omega, by omega⟩ ⟨by omega, by omega⟩ hih6 (by omega))
  · have c_3 := i_ne c_3
    try have a_6 : 0 < (((1 : Int32) <<< (x6 &&& 31))).toInt ∧ (((1 : Int32) <<< (x6 &&& 31))).toInt ≤ 256 := i_shl 8 (by decide) ⟨by omega, by omega⟩
    have n_8 : ((1 : Int32)).toInt = 1 := rfl
    have b_7 : (0 : Int) ≤ (rd M (135 + 1) (((1 : Int32)).toNatClampNeg)).toInt ∧ (rd M (135 + 1) (((1 : Int32)).toNatClampNeg)).toInt ≤ 9 := h_M.ri 1 1 (by decide +kernel) (by omega) (by omega)
    exact (sX7_hittingLaid_b73 h_M ⟨by omega, by omega⟩ ⟨by omega, by omega⟩ ⟨by omega, by omega⟩ ⟨by omega, by omega⟩ ⟨by omega, by omega⟩ ⟨by omega, by omega⟩ ⟨by omega, by omega⟩ ⟨by omega, by omega⟩ hih6 (by omega))
set_option maxHeartbeats 2000000 in
theorem sX7_hittingLaid_b33 {g : Gm} {M : Mem} {ih6 : Int32 → Int32 → Int32 → Int32 → Int32 → Int32 → Option Int32} {x1 : Int32} {x2 : Int32} {x3 : Int32} {x4 : Int32} {x5 : Int32} {x6 : Int32} {y0 : Int32} {d6 : Nat} (h_M : OKm g M) (hx1 : (0 : Int) ≤ (x1).toInt ∧ (x1).toInt ≤ 7) (hx2 : (0 : Int) ≤ (x2).toInt ∧ (x2).toInt ≤ 1) (hx3 : (0 : Int) ≤ (x3).toInt ∧ (x3).toInt ≤ 1) (hx4 : (0 : Int) ≤ (x4).toInt ∧ (x4).toInt ≤ 1) (hx5 : (0 : Int) ≤ (x5).toInt ∧ (x5).toInt ≤ 4095) (hx6 : (0 : Int) ≤ (x6).toInt ∧ (x6).toInt ≤ 8) (hy0 : (0 : Int) ≤ (y0).toInt ∧ (y0).toInt ≤ 1) (he0 : (1 : Int) ≤ (rd M (135 + 1) ((((1 : Int32)).toNatClampNeg))).toInt ∧ (rd M (135 + 1) ((((1 : Int32)).toNatClampNeg))).toInt ≤ 9) (hih6 : ∀ (yx1 : Int32) (yx2 : Int32) (yx3 : Int32) (yx4 : Int32) (yx5 : Int32) (yx6 : Int32), ((0 : Int) ≤ (yx1).toInt ∧ (yx1).toInt ≤ 7) → ((0 : Int) ≤ (yx2).toInt ∧ (yx2).toInt ≤ 1) → ((0 : Int) ≤ (yx3).toInt ∧ (yx3).toInt ≤ 1) → ((0 : Int) ≤ (yx4).toInt ∧ (yx4).toInt ≤ 1) → ((0 : Int) ≤ (yx5).toInt ∧ (yx5).toInt ≤ 4095) → ((0 : Int) ≤ (yx6).toInt ∧ (yx6).toInt ≤ 9) → 9 - (yx6).toInt < d6 → Sf (ih6 yx1 yx2 yx3 yx4 yx5 yx6) (pI (0) (4095))) (hmu6 : 9 - (x6).toInt ≤ d6) : Sf (mX7_hittingLaid_b33 135 M ih6 x1 x2 x3 x4 x5 x6 y0) (pI (0) (4095)) := by
  unfold mX7_hittingLaid_b33
  have n_1 : ((0 : Int32)).toInt = 0 := rfl
  refine Sf.i (fun c_2 => ?_) (fun c_2 => ?_)
  · have c_2 := i_eq.mp c_2
    refine Sf.i (fun c_3 => ?_) (fun c_3 => ?_)
    · have c_3 := i_eq.mp c_3
      have n_5 : ((1 : Int32)).toInt = 1 := rfl
      have b_4 : (0 : Int) ≤ (rd M (135 + 1) (((1 : Int32)).toNatClampNeg)).toInt ∧ (rd M (135 + 1) (((1 : Int32)).toNatClampNeg)).toInt ≤ 9 := h_M.ri 1 1 (by decide +kernel) (by omega) (by omega)
      exact (sX7_hittingLaid_b72 h_M ⟨by omega, by omega⟩ ⟨by omega, by omega⟩ ⟨by omega, by omega⟩ ⟨by omega, by omega⟩ ⟨by omega, by omega⟩ ⟨by omega, by omega⟩ ⟨by omega, by omega⟩ hih6 (by omega))
    · have c_3 := i_ne c_3
      have n_7 : ((1 : Int32)).toInt = 1 := rfl
      have b_6 : (0 : Int) ≤ (rd M (135 + 1) (((1 : Int32)).toNatClampNeg)).toInt ∧ (rd M (135 + 1) (((1 : Int32)).toNatClampNeg)).toInt ≤ 9 := h_M.ri 1 1 (by decide +kernel) (by omega) (by omega)
      exact (sX7_hittingLaid_b54 h_M ⟨by omega, by omega⟩ ⟨by omega, by omega⟩ ⟨by omega, by omega⟩ ⟨by omega, by omega⟩ ⟨by omega, by omega⟩ ⟨by omega, by omega⟩ ⟨by omega, by omega⟩ ⟨by omega, by omega⟩ hih6 (by omega))
  · have c_2 := i_ne c_2
    refine Sf.i (fun c_8 => ?_) (fun c_8 => ?_)
    · have c_8 := i_eq.mp c_8
      have n_10 : ((1 : Int32)).toInt = 1 := rfl
      have b_9 : (0 : Int) ≤ (rd M (135 + 1) (((1 : Int32)).toNatClampNeg)).toInt ∧ (rd M (135 + 1) (((1 : Int32)).toNatClampNeg)).toInt ≤ 9 := h_M.ri 1 1 (by decide +kernel) (by omega) (by omega)
      exact (sX7_hittingLaid_b72 h_M ⟨by omega, by omega⟩ ⟨by omega, by omega⟩ ⟨by omega, by omega⟩ ⟨by omega, by omega⟩ ⟨by omega, by omega⟩ ⟨by omega, by omega⟩ ⟨by omega, by omega⟩ hih6 (by omega))
    · have c_8 := i_ne c_8
      have n_12 : ((1 : Int32)).toInt = 1 := rfl
      have b_11 : (0 : Int) ≤ (rd M (135 + 1) (((1 : Int32)).toNatClampNeg)).toInt ∧ (rd M (135 + 1) (((1 : Int32)).toNatClampNeg)).toInt ≤ 9 := h_M.ri 1 1 (by decide +kernel) (by omega) (by omega)
      exact (sX7_hittingLaid_b54 h_M ⟨by omega, by omega⟩ ⟨by omega, by omega⟩ ⟨by omega, by omega⟩ ⟨by omega, by omega⟩ ⟨by omega, by omega⟩ ⟨by omega, by omega⟩ ⟨by omega, by omega⟩ ⟨by omega, by omega⟩ hih6 (by omega))
set_option maxHeartbeats 2000000 in
theorem sX7_hittingLaid_b6 {g : Gm} {M : Mem} {ih6 : Int32 → Int32 → Int32 → Int32 → Int32 → Int32 → Option Int32} {x1 : Int32} {x2 : Int32} {x3 : Int32} {x4 : Int32} {x5 : Int32} {x6 : Int32} {d6 : Nat} (h_M : OKm g M) (hx1 : (0 : Int) ≤ (x1).toInt ∧ (x1).toInt ≤ 7) (hx2 : (0 : Int) ≤ (x2).toInt ∧ (x2).toInt ≤ 1) (hx3 : (0 : Int) ≤ (x3).toInt ∧ (x3).toInt ≤ 1) (hx4 : (0 : Int) ≤ (x4).toInt ∧ (x4).toInt ≤ 1) (hx5 : (0 : Int) ≤ (x5).toInt ∧ (x5).toInt ≤ 4095) (hx6 : (0 : Int) ≤ (x6).toInt ∧ (x6).toInt ≤ 9) (hih6 : ∀ (yx1 : Int32) (yx2 : Int32) (yx3 : Int32) (yx4 : Int32) (yx5 : Int32) (yx6 : Int32), ((0 : Int) ≤ (yx1).toInt ∧ (yx1).toInt ≤ 7) → ((0 : Int) ≤ (yx2).toInt ∧ (yx2).toInt ≤ 1) → ((0 : Int) ≤ (yx3).toInt ∧ (yx3).toInt ≤ 1) → ((0 : Int) ≤ (yx4).toInt ∧ (yx4).toInt ≤ 1) → ((0 : Int) ≤ (yx5).toInt ∧ (yx5).toInt ≤ 4095) → ((0 : Int) ≤ (yx6).toInt ∧ (yx6).toInt ≤ 9) → 9 - (yx6).toInt < d6 → Sf (ih6 yx1 yx2 yx3 yx4 yx5 yx6) (pI (0) (4095))) (hmu6 : 9 - (x6).toInt ≤ d6) : Sf (mX7_hittingLaid_b6 135 M ih6 x1 x2 x3 x4 x5 x6) (pI (0) (4095)) := by
  unfold mX7_hittingLaid_b6
  have n_1 : ((1 : Int32)).toInt = 1 := rfl
  refine Sf.k (ok_in (by omega) (by omega)) ?_
  have b_2 : (0 : Int) ≤ (rd M (135 + 1) (((1 : Int32)).toNatClampNeg)).toInt ∧ (rd M (135 + 1) (((1 : Int32)).toNatClampNeg)).toInt ≤ 9 := h_M.ri 1 1 (by decide +kernel) (by omega) (by omega)
  refine Sf.i (fun c_3 => ?_) (fun c_3 => ?_)
  · have c_3 := i_le.mp c_3
    have z_4 : (0 : Int) ≤ (x5).toInt ∧ (x5).toInt ≤ 4095 := ⟨by omega, by omega⟩
    exact Sf.ok z_4
  · have c_3 := i_nle c_3
    refine Sf.c (sX7_isClamped h_M ⟨by omega, by omega⟩ ⟨by omega, by omega⟩ ⟨by omega, by omega⟩) (fun r4 p_5 => ?_)
    obtain ⟨p_5a, p_5b⟩ := p_5
    have n_6 : ((0 : Int32)).toInt = 0 := rfl
    refine Sf.i (fun c_7 => ?_) (fun c_7 => ?_)
    · have c_7 := i_eq.mp c_7
      exact (sX7_hittingLaid_b33 h_M ⟨by omega, by omega⟩ ⟨by omega, by omega⟩ ⟨by omega, by omega⟩ ⟨by omega, by omega⟩ ⟨by omega, by omega⟩ ⟨by omega, by omega⟩ ⟨by omega, by omega⟩ ⟨by omega, by omega⟩ hih6 (by omega))
    · have c_7 := i_ne c_7
      have n_8 : ((0 : Int32)).toInt = 0 := rfl
      exact (sX7_hittingLaid_b33 h_M ⟨by omega, by omega⟩ ⟨by omega, by omega⟩ ⟨by omega, by omega⟩ ⟨by omega, by omega⟩ ⟨by omega, by omega⟩ ⟨by omega, by omega⟩ ⟨by omega, by omega⟩ ⟨by omega, by omega⟩ hih6 (by omega))
theorem sX7_hittingLaid_l6_n {g : Gm}  {M : Mem}  (h_M : OKm g M)   : ∀ (n : Nat) (x1 : Int32) (x2 : Int32) (x3 : Int32) (x4 : Int32) (x5 : Int32) (x6 : Int32) (hx1 : (0 : Int) ≤ (x1).toInt ∧ (x1).toInt ≤ 7) (hx2 : (0 : Int) ≤ (x2).toInt ∧ (x2).toInt ≤ 1) (hx3 : (0 : Int) ≤ (x3).toInt ∧ (x3).toInt ≤ 1) (hx4 : (0 : Int) ≤ (x4).toInt ∧ (x4).toInt ≤ 1) (hx5 : (0 : Int) ≤ (x5).toInt ∧ (x5).toInt ≤ 4095) (hx6 : (0 : Int) ≤ (x6).toInt ∧ (x6).toInt ≤ 9)   (hmu : 9 - (x6).toInt < n), Sf (mX7_hittingLaid_l6 135 M n x1 x2 x3 x4 x5 x6) (pI (0) (4095)) := by
  intro n
  induction n with
  | zero => intro x1 x2 x3 x4 x5 x6 hx1 hx2 hx3 hx4 hx5 hx6 hmu; exfalso; omega
  | succ n IH => intro x1 x2 x3 x4 x5 x6 hx1 hx2 hx3 hx4 hx5 hx6 hmu; exact sX7_hittingLaid_b6  h_M hx1 hx2 hx3 hx4 hx5 hx6    IH (by omega)
theorem sX7_hittingLaid_l6 {g : Gm}  {M : Mem} {x1 : Int32} {x2 : Int32} {x3 : Int32} {x4 : Int32} {x5 : Int32} {x6 : Int32}  (h_M : OKm g M) (hx1 : (0 : Int) ≤ (x1).toInt ∧ (x1).toInt ≤ 7) (hx2 : (0 : Int) ≤ (x2).toInt ∧ (x2).toInt ≤ 1) (hx3 : (0 : Int) ≤ (x3).toInt ∧ (x3).toInt ≤ 1) (hx4 : (0 : Int) ≤ (x4).toInt ∧ (x4).toInt ≤ 1) (hx5 : (0 : Int) ≤ (x5).toInt ∧ (x5).toInt ≤ 4095) (hx6 : (0 : Int) ≤ (x6).toInt ∧ (x6).toInt ≤ 9)    (hmu : 9 - (x6).toInt < 5000) : Sf (mX7_hittingLaid_l6 135 M 5000 x1 x2 x3 x4 x5 x6) (pI (0) (4095)) :=
  sX7_hittingLaid_l6_n  h_M   5000 _ _ _ _ _ _ hx1 hx2 hx3 hx4 hx5 hx6   hmu
set_option maxHeartbeats 2000000 in
theorem sX7_hittingLaid {g : Gm} {x1 : Int32} {x2 : Int32} {x3 : Int32} {x4 : Int32} {M : Mem} (h_M : OKm g M) (hx1 : (0 : Int) ≤ (x1).toInt ∧ (x1).toInt ≤ 7) (hx2 : (0 : Int) ≤ (x2).toInt ∧ (x2).toInt ≤ 1) (hx3 : (0 : Int) ≤ (x3).toInt ∧ (x3).toInt ≤ 1) (hx4 : (0 : Int) ≤ (x4).toInt ∧ (x4).toInt ≤ 1) : Sf (mX7_hittingLaid 135 x1 x2 x3 x4 M) (pI (0) (4095)) := by
  unfold mX7_hittingLaid
  have n_1 : ((0 : Int32)).toInt = 0 := rfl
  exact (sX7_hittingLaid_l6 h_M ⟨by omega, by omega⟩ ⟨by omega, by omega⟩ ⟨by omega, by omega⟩ ⟨by omega, by omega⟩ ⟨by omega, by omega⟩ ⟨by omega, by omega⟩ (by omega))
set_option maxHeartbeats 2000000 in
theorem sX7_isShort_b11 {g : Gm} {M : Mem} {y0 : Int32} (h_M : OKm g M) (hy0 : (0 : Int) ≤ (y0).toInt ∧ (y0).toInt ≤ 8) : Sf (mX7_isShort_b11 135 M y0) (pI (0) (1)) := by
  unfold mX7_isShort_b11
  have n_1 : ((2 : Int32)).toInt = 2 := rfl
  try have a_2 : (((2 : Int32) + y0)).toInt = ((2 : Int32)).toInt + (y0).toInt := i_add (by omega) (by omega)
  refine Sf.k (ok_in (by omega) (by omega)) ?_
  have n_3 : ((4 : Int32)).toInt = 4 := rfl
  have n_4 : ((0 : Int32)).toInt = 0 := rfl
  refine Sf.c (sX7_toolOf h_M ⟨by omega, by omega⟩ ⟨by omega, by omega⟩) (fun r4 p_5 => ?_)
  obtain ⟨p_5a, p_5b⟩ := p_5
  have b_6 : (0 : Int) ≤ (rd M (135 + 1) ((((2 : Int32) + y0)).toNatClampNeg)).toInt ∧ (rd M (135 + 1) ((((2 : Int32) + y0)).toNatClampNeg)).toInt ≤ 9999 := h_M.ri 2 10 (by decide +kernel) (by omega) (by omega)
  refine Sf.i (fun c_7 => ?_) (fun c_7 => ?_)
  · have c_7 := i_le.mp c_7
    have z_8 : (0 : Int) ≤ ((0 : Int32)).toInt ∧ ((0 : Int32)).toInt ≤ 1 := ⟨by omega, by omega⟩
    exact Sf.ok z_8
  · have c_7 := i_nle c_7
    have n_9 : ((1 : Int32)).toInt = 1 := rfl
    have z_10 : (0 : Int) ≤ ((1 : Int32)).toInt ∧ ((1 : Int32)).toInt ≤ 1 := ⟨by omega, by omega⟩
    exact Sf.ok z_10
set_option maxHeartbeats 2000000 in
theorem sX7_isShort {g : Gm} {x1 : Int32} {x2 : Int32} {M : Mem} (h_M : OKm g M) (hx1 : (0 : Int) ≤ (x1).toInt ∧ (x1).toInt ≤ 7) (hx2 : (0 : Int) ≤ (x2).toInt ∧ (x2).toInt ≤ 1) : Sf (mX7_isShort 135 x1 x2 M) (pI (0) (1)) := by
  unfold mX7_isShort
  have n_1 : ((0 : Int32)).toInt = 0 := rfl
  refine Sf.i (fun c_2 => ?_) (fun c_2 => ?_)
  · have c_2 := i_eq.mp c_2
    have n_3 : ((1 : Int32)).toInt = 1 := rfl
    try have a_4 : ((x1 + (1 : Int32))).toInt = (x1).toInt + ((1 : Int32)).toInt := i_add (by omega) (by omega)
    exact (sX7_isShort_b11 h_M ⟨by omega, by omega⟩)
  · have c_2 := i_ne c_2
    exact (sX7_isShort_b11 h_M ⟨by omega, by omega⟩)
set_option maxHeartbeats 2000000 in
theorem sX7_isGaugeLaid {g : Gm} {x1 : Int32} {x2 : Int32} {M : Mem} (h_M : OKm g M) (hx1 : (0 : Int) ≤ (x1).toInt ∧ (x1).toInt ≤ 7) (hx2 : (0 : Int) ≤ (x2).toInt ∧ (x2).toInt ≤ 1) : Sf (mX7_isGaugeLaid 135 x1 x2 M) (pI (0) (1)) := by
  unfold mX7_isGaugeLaid
  refine Sf.c (sX7_gaugeLaid h_M ⟨by omega, by omega⟩ ⟨by omega, by omega⟩) (fun r2 p_1 => ?_)
  obtain ⟨p_1a, p_1b⟩ := p_1
  have n_2 : ((3 : Int32)).toInt = 3 := rfl
  have n_3 : ((0 : Int32)).toInt = 0 := rfl
  refine Sf.c (sX7_toolOf h_M ⟨by omega, by omega⟩ ⟨by omega, by omega⟩) (fun r5 p_4 => ?_)
  obtain ⟨p_4a, p_4b⟩ := p_4
  have n_5 : ((1 : Int32)).toInt = 1 := rfl
  refine Sf.c (sX7_toolOf h_M ⟨by omega, by omega⟩ ⟨by omega, by omega⟩) (fun r8 p_6 => ?_)
  obtain ⟨p_6a, p_6b⟩ := p_6
  refine Sf.c (sX7_between (a := (r2).toInt) (b := (r5).toInt) (c := (r8).toInt) (Int32.toInt_toInt64 _) (Int32.toInt_toInt64 _) (Int32.toInt_toInt64 _)) (fun r11 p_7 => ?_)
  have p_7 : (0 ≤ (r11).toInt ∧ (r11).toInt ≤ 1) ∧ ((r11).toInt = 0 ∨ ((r5).toInt ≤ (r2).toInt ∧ (r2).toInt ≤ (r8).toInt)) := p_7
  refine Sf.k (isB_in ⟨by omega, by omega⟩) ?_
  have z_8 : (0 : Int) ≤ (r11).toInt ∧ (r11).toInt ≤ 1 := ⟨by omega, by omega⟩
  exact Sf.ok z_8
set_option maxHeartbeats 2000000 in
theorem sX7_reasonOf {g : Gm} {x1 : Int32} {x2 : Int32} {x3 : Int32} {M : Mem} (h_M : OKm g M) (hx1 : (0 : Int) ≤ (x1).toInt ∧ (x1).toInt ≤ 7) (hx2 : (0 : Int) ≤ (x2).toInt ∧ (x2).toInt ≤ 1) (hx3 : (0 : Int) ≤ (x3).toInt ∧ (x3).toInt ≤ 255) : Sf (mX7_reasonOf 135 x1 x2 x3 M) (qMI g (0) (6)) := by
  unfold mX7_reasonOf
  refine Sf.c (sX7_has h_M ⟨by omega, by omega⟩ ⟨by omega, by omega⟩) (fun r2 p_1 => ?_)
  obtain ⟨p_1a, p_1b⟩ := p_1
  have n_2 : ((0 : Int32)).toInt = 0 := rfl
  refine Sf.i (fun c_3 => ?_) (fun c_3 => ?_)
  · have c_3 := i_eq.mp c_3
    refine Sf.c (sX7_isShort h_M ⟨by omega, by omega⟩ ⟨by omega, by omega⟩) (fun r6 p_4 => ?_)
    obtain ⟨p_4a, p_4b⟩ := p_4
    refine Sf.i (fun c_5 => ?_) (fun c_5 => ?_)
    · have c_5 := i_eq.mp c_5
      refine Sf.m (sX7_laySheet h_M ⟨by omega, by omega⟩ ⟨by omega, by omega⟩ ⟨by omega, by omega⟩) (fun M11 _ h_M11 => ?_)
      have h_M11 : OKm g M11 := h_M11
      refine Sf.c (sX7_isGaugeLaid h_M11 ⟨by omega, by omega⟩ ⟨by omega, by omega⟩) (fun r13 p_7 => ?_)
      obtain ⟨p_7a, p_7b⟩ := p_7
      refine Sf.i (fun c_8 => ?_) (fun c_8 => ?_)
      · have c_8 := i_eq.mp c_8
        have n_9 : ((3 : Int32)).toInt = 3 := rfl
        have z_10 : (0 : Int) ≤ ((3 : Int32)).toInt ∧ ((3 : Int32)).toInt ≤ 6 := ⟨by omega, by omega⟩
        exact Sf.ok ⟨h_M11, z_10⟩
      · have c_8 := i_ne c_8
        have n_11 : ((1 : Int32)).toInt = 1 := rfl
        have n_12 : ((0 : Int32)).toInt = 0 := rfl
        refine Sf.c (sX7_hittingLaid h_M11 ⟨by omega, by omega⟩ ⟨by omega, by omega⟩ ⟨by omega, by omega⟩ ⟨by omega, by omega⟩) (fun r17 p_13 => ?_)
        obtain ⟨p_13a, p_13b⟩ := p_13
        refine Sf.i (fun c_14 => ?_) (fun c_14 => ?_)
        · have c_14 := i_eq.mp c_14
          refine Sf.c (sX7_hittingLaid h_M11 ⟨by omega, by omega⟩ ⟨by omega, by omega⟩ ⟨by omega, by omega⟩ ⟨by omega, by omega⟩) (fun r21 p_15 => ?_)
          obtain ⟨p_15a, p_15b⟩ := p_15
          refine Sf.i (fun c_16 => ?_) (fun c_16 => ?_)
          · have c_16 := i_eq.mp c_16
            refine Sf.c (sX7_isCrossed h_M11) (fun r25 p_17 => ?_)
            obtain ⟨p_17a, p_17b⟩ := p_17
            refine Sf.i (fun c_18 => ?_) (fun c_18 => ?_)
            · have c_18 := i_eq.mp c_18
              have z_19 : (0 : Int) ≤ ((0 : Int32)).toInt ∧ ((0 : Int32)).toInt ≤ 6 := ⟨by omega, by omega⟩
              exact Sf.ok ⟨h_M11, z_19⟩
            · have c_18 := i_ne c_18
              have n_20 : ((6 : Int32)).toInt = 6 := rfl
              have z_21 : (0 : Int) ≤ ((6 : Int32)).toInt ∧ ((6 : Int32)).toInt ≤ 6 := ⟨by omega, by omega⟩
              exact Sf.ok ⟨h_M11, z_21⟩
          · have c_16 := i_ne c_16
            have n_22 : ((5 : Int32)).toInt = 5 := rfl
            have z_23 : (0 : Int) ≤ ((5 : Int32)).toInt ∧ ((5 : Int32)).toInt ≤ 6 := ⟨by omega, by omega⟩
            exact Sf.ok ⟨h_M11, z_23⟩
        · have c_14 := i_ne c_14
          have n_24 : ((4 : Int32)).toInt = 4 := rfl
          have z_25 : (0 : Int) ≤ ((4 : Int32)).toInt ∧ ((4 : Int32)).toInt ≤ 6 := ⟨by omega, by omega⟩
          exact Sf.ok ⟨h_M11, z_25⟩
    · have c_5 := i_ne c_5
      have n_26 : ((2 : Int32)).toInt = 2 := rfl
      have z_27 : (0 : Int) ≤ ((2 : Int32)).toInt ∧ ((2 : Int32)).toInt ≤ 6 := ⟨by omega, by omega⟩
      exact Sf.ok ⟨h_M, z_27⟩
  · have c_3 := i_ne c_3
    have n_28 : ((1 : Int32)).toInt = 1 := rfl
    have z_29 : (0 : Int) ≤ ((1 : Int32)).toInt ∧ ((1 : Int32)).toInt ≤ 6 := ⟨by omega, by omega⟩
    exact Sf.ok ⟨h_M, z_29⟩
set_option maxHeartbeats 2000000 in
theorem sX7_layFinished_b66 {g : Gm} {ih14 : Int32 → Int32 → Mem → Option (Mem × Unit)} {x2 : Int32} {y0 : Int32} {M : Mem} {d14 : Nat} (h_M : OKm g M) (hx2 : (0 : Int) ≤ (x2).toInt ∧ (x2).toInt ≤ 8) (hy0 : (0 : Int) ≤ (y0).toInt ∧ (y0).toInt ≤ 3) (hih14 : ∀ (yx1 : Int32) (yx2 : Int32) (M : Mem), OKm g M → ((0 : Int) ≤ (yx1).toInt ∧ (yx1).toInt ≤ 3) → ((0 : Int) ≤ (yx2).toInt ∧ (yx2).toInt ≤ 9) → 9 - (yx2).toInt < d14 → Sf (ih14 yx1 yx2 M) (qM g)) (hmu14 : 9 - (x2).toInt ≤ d14) : Sf (mX7_layFinished_b66 135 ih14 x2 y0 M) (qM g) := by
  unfold mX7_layFinished_b66
  have n_1 : ((1 : Int32)).toInt = 1 := rfl
  try have a_2 : ((x2 + (1 : Int32))).toInt = (x2).toInt + ((1 : Int32)).toInt := i_add (by omega) (by omega)
  refine Sf.b (fun x2_67 e_x2_67 => ?_)
  have d_x2_67 := congrArg Int32.toInt e_x2_67
  exact (hih14 _ _ _ h_M ⟨by omega, by omega⟩ ⟨by omega, by omega⟩ (by omega))
set_option maxHeartbeats 2000000 in
theorem sX7_layFinished_b63 {g : Gm} {ih14 : Int32 → Int32 → Mem → Option (Mem × Unit)} {x2 : Int32} {y0 : Int32} {y1 : Int32} {M : Mem} {d14 : Nat} (h_M : OKm g M) (hx2 : (0 : Int) ≤ (x2).toInt ∧ (x2).toInt ≤ 8) (hy0 : (0 : Int) ≤ (y0).toInt ∧ (y0).toInt ≤ 3) (hy1 : (1 : Int) ≤ (y1).toInt ∧ (y1).toInt ≤ 3) (hih14 : ∀ (yx1 : Int32) (yx2 : Int32) (M : Mem), OKm g M → ((0 : Int) ≤ (yx1).toInt ∧ (yx1).toInt ≤ 3) → ((0 : Int) ≤ (yx2).toInt ∧ (yx2).toInt ≤ 9) → 9 - (yx2).toInt < d14 → Sf (ih14 yx1 yx2 M) (qM g)) (hmu14 : 9 - (x2).toInt ≤ d14) : Sf (mX7_layFinished_b63 135 ih14 x2 y0 y1 M) (qM g) := by
  unfold mX7_layFinished_b63
  try have a_1 : ((y0 + y1)).toInt = (y0).toInt + (y1).toInt := i_add (by omega) (by omega)
  have n_2 : ((4 : Int32)).toInt = 4 := rfl
  try have a_3 : (((y0 + y1) / (4 : Int32))).toInt = ((y0 + y1)).toInt / 4 := (i_div (by omega) (by omega)).trans (by rw [show ((4 : Int32)).toInt = 4 from rfl])
  try have a_4 : ((((y0 + y1) / (4 : Int32)) * (4 : Int32))).toInt = (((y0 + y1) / (4 : Int32))).toInt * 4 := i_mulr (by omega) (by omega) (by omega)
  try have a_5 : (((y0 + y1) - (((y0 + y1) / (4 : Int32)) * (4 : Int32)))).toInt = ((y0 + y1)).toInt - ((((y0 + y1) / (4 : Int32)) * (4 : Int32))).toInt := i_sub (by omega) (by omega)
  exact (sX7_layFinished_b66 h_M ⟨by omega, by omega⟩ ⟨by omega, by omega⟩ hih14 (by omega))
set_option maxHeartbeats 2000000 in
theorem sX7_layFinished_b14 {g : Gm} {ih14 : Int32 → Int32 → Mem → Option (Mem × Unit)} {x1 : Int32} {x2 : Int32} {M : Mem} {d14 : Nat} (h_M : OKm g M) (hx1 : (0 : Int) ≤ (x1).toInt ∧ (x1).toInt ≤ 3) (hx2 : (0 : Int) ≤ (x2).toInt ∧ (x2).toInt ≤ 9) (hih14 : ∀ (yx1 : Int32) (yx2 : Int32) (M : Mem), OKm g M → ((0 : Int) ≤ (yx1).toInt ∧ (yx1).toInt ≤ 3) → ((0 : Int) ≤ (yx2).toInt ∧ (yx2).toInt ≤ 9) → 9 - (yx2).toInt < d14 → Sf (ih14 yx1 yx2 M) (qM g)) (hmu14 : 9 - (x2).toInt ≤ d14) : Sf (mX7_layFinished_b14 135 ih14 x1 x2 M) (qM g) := by
  unfold mX7_layFinished_b14
  have n_1 : ((1 : Int32)).toInt = 1 := rfl
  refine Sf.k (ok_in (by omega) (by omega)) ?_
  have b_2 : (0 : Int) ≤ (rd M (135 + 1) (((1 : Int32)).toNatClampNeg)).toInt ∧ (rd M (135 + 1) (((1 : Int32)).toNatClampNeg)).toInt ≤ 9 := h_M.ri 1 1 (by decide +kernel) (by omega) (by omega)
  refine Sf.i (fun c_3 => ?_) (fun c_3 => ?_)
  · have c_3 := i_le.mp c_3
    exact Sf.ok h_M
  · have c_3 := i_nle c_3
    refine Sf.m (sX7_layLeg h_M ⟨by omega, by omega⟩ ⟨by omega, by omega⟩) (fun M9 _ h_M9 => ?_)
    have h_M9 : OKm g M9 := h_M9
    have n_5 : ((0 : Int32)).toInt = 0 := rfl
    refine Sf.k (ok_in (by omega) (by omega)) ?_
    have b_6 : (0 : Int) ≤ (rd M9 (135 + 1) (((0 : Int32)).toNatClampNeg)).toInt ∧ (rd M9 (135 + 1) (((0 : Int32)).toNatClampNeg)).toInt ≤ 8 := h_M9.ri 0 0 (by decide +kernel) (by omega) (by omega)
    refine Sf.i (fun c_7 => ?_) (fun c_7 => ?_)
    · have c_7 := i_eq.mp c_7
      exact (sX7_layFinished_b66 h_M9 ⟨by omega, by omega⟩ ⟨by omega, by omega⟩ hih14 (by omega))
    · have c_7 := i_ne c_7
      have n_8 : ((11 : Int32)).toInt = 11 := rfl
      try have a_9 : (((11 : Int32) + x2)).toInt = ((11 : Int32)).toInt + (x2).toInt := i_add (by omega) (by omega)
      refine Sf.k (ok_in (by omega) (by omega)) ?_
      have b_10 : (0 : Int) ≤ (rd M9 (135 + 1) ((((11 : Int32) + x2)).toNatClampNeg)).toInt ∧ (rd M9 (135 + 1) ((((11 : Int32) + x2)).toNatClampNeg)).toInt ≤ 8 := h_M9.ri 11 19 (by decide +kernel) (by omega) (by omega)
      refine Sf.i (fun c_11 => ?_) (fun c_11 => ?_)
      · have c_11 := i_eq.mp c_11
        have n_12 : ((3 : Int32)).toInt = 3 := rfl
        exact (sX7_layFinished_b63 h_M9 ⟨by omega, by omega⟩ ⟨by omega, by omega⟩ ⟨by omega, by omega⟩ hih14 (by omega))
      · have c_11 := i_ne c_11
        exact (sX7_layFinished_b63 h_M9 ⟨by omega, by omega⟩ ⟨by omega, by omega⟩ ⟨by omega, by omega⟩ hih14 (by omega))
theorem sX7_layFinished_l14_n {g : Gm}    : ∀ (n : Nat) (x1 : Int32) (x2 : Int32) (M : Mem) (h_M : OKm g M) (hx1 : (0 : Int) ≤ (x1).toInt ∧ (x1).toInt ≤ 3) (hx2 : (0 : Int) ≤ (x2).toInt ∧ (x2).toInt ≤ 9)    (hmu : 9 - (x2).toInt < n), Sf (mX7_layFinished_l14 135 n x1 x2 M) (qM g) := by
  intro n
  induction n with
  | zero => intro x1 x2 M h_M hx1 hx2 hmu; exfalso; omega
  | succ n IH => intro x1 x2 M h_M hx1 hx2 hmu; exact sX7_layFinished_b14  h_M hx1 hx2    IH (by omega)
theorem sX7_layFinished_l14 {g : Gm}  {x1 : Int32} {x2 : Int32} {M : Mem}  (h_M : OKm g M) (hx1 : (0 : Int) ≤ (x1).toInt ∧ (x1).toInt ≤ 3) (hx2 : (0 : Int) ≤ (x2).toInt ∧ (x2).toInt ≤ 9)    (hmu : 9 - (x2).toInt < 5000) : Sf (mX7_layFinished_l14 135 5000 x1 x2 M) (qM g) :=
  sX7_layFinished_l14_n   5000 _ _ M h_M hx1 hx2    hmu
set_option maxHeartbeats 2000000 in
theorem sX7_layFinished {g : Gm} {M : Mem} (h_M : OKm g M) : Sf (mX7_layFinished 135 M) (qM g) := by
  unfold mX7_layFinished
  refine Sf.b (fun M1 e_M1 => ?_)
  have h_M1 : OKm g M1 := by rw [e_M1]; exact h_M.put rfl (i_rng _)
  refine Sf.b (fun M3 e_M3 => ?_)
  have h_M3 : OKm g M3 := by rw [e_M3]; exact h_M1.put rfl (i_rng _)
  have n_1 : ((1 : Int32)).toInt = 1 := rfl
  have n_2 : ((0 : Int32)).toInt = 0 := rfl
  exact (sX7_layFinished_l14 h_M3 ⟨by omega, by omega⟩ ⟨by omega, by omega⟩ (by omega))
set_option maxHeartbeats 2000000 in
theorem sX7_finishedWidth_b15 {g : Gm} {ih15 : Int32 → Int32 → Int32 → Mem → Option (Mem × Int32)} {x1 : Int32} {x2 : Int32} {x3 : Int32} {M : Mem} {d15 : Nat} (h_M : OKm g M) (hx1 : (-2147483648 : Int) ≤ (x1).toInt ∧ (x1).toInt ≤ 0) (hx2 : (0 : Int) ≤ (x2).toInt ∧ (x2).toInt ≤ 2147483647) (hx3 : (0 : Int) ≤ (x3).toInt ∧ (x3).toInt ≤ 9) (hih15 : ∀ (yx1 : Int32) (yx2 : Int32) (yx3 : Int32) (M : Mem), OKm g M → ((-2147483648 : Int) ≤ (yx1).toInt ∧ (yx1).toInt ≤ 0) → ((0 : Int) ≤ (yx2).toInt ∧ (yx2).toInt ≤ 2147483647) → ((0 : Int) ≤ (yx3).toInt ∧ (yx3).toInt ≤ 9) → 9 - (yx3).toInt < d15 → Sf (ih15 yx1 yx2 yx3 M) (qMI g (-2147483648) (2147483647))) (hmu15 : 9 - (x3).toInt ≤ d15) : Sf (mX7_finishedWidth_b15 135 ih15 x1 x2 x3 M) (qMI g (-2147483648) (2147483647)) := by
  unfold mX7_finishedWidth_b15
  have n_1 : ((1 : Int32)).toInt = 1 := rfl
  refine Sf.k (ok_in (by omega) (by omega)) ?_
  have b_2 : (0 : Int) ≤ (rd M (135 + 1) (((1 : Int32)).toNatClampNeg)).toInt ∧ (rd M (135 + 1) (((1 : Int32)).toNatClampNeg)).toInt ≤ 9 := h_M.ri 1 1 (by decide +kernel) (by omega) (by omega)
  refine Sf.i (fun c_3 => ?_) (fun c_3 => ?_)
  · have c_3 := i_le.mp c_3
    exact Sf.ok ⟨h_M, (i_rng _)⟩
  · have c_3 := i_nle c_3
    refine Sf.k (ok_in (by omega) (by omega)) ?_
    have m_4 := i_min (a := x1) (b := (rd M (135 + 8) ((x3).toNatClampNeg)))
    refine Sf.b (fun x1_35 e_x1_35 => ?_)
    have d_x1_35 := congrArg Int32.toInt e_x1_35
    refine Sf.k (ok_in (by omega) (by omega)) ?_
    have m_5 := i_max (a := x2) (b := (rd M (135 + 8) ((x3).toNatClampNeg)))
    refine Sf.b (fun x2_46 e_x2_46 => ?_)
    have d_x2_46 := congrArg Int32.toInt e_x2_46
    try have a_6 : ((x3 + (1 : Int32))).toInt = (x3).toInt + ((1 : Int32)).toInt := i_add (by omega) (by omega)
    refine Sf.b (fun x3_47 e_x3_47 => ?_)
    have d_x3_47 := congrArg Int32.toInt e_x3_47
    have g_7 := i_rng x1_35
    have g_8 := i_rng x2_46
    exact (hih15 _ _ _ _ h_M ⟨by omega, by omega⟩ ⟨by omega, by omega⟩ ⟨by omega, by omega⟩ (by omega))
theorem sX7_finishedWidth_l15_n {g : Gm}    : ∀ (n : Nat) (x1 : Int32) (x2 : Int32) (x3 : Int32) (M : Mem) (h_M : OKm g M) (hx1 : (-2147483648 : Int) ≤ (x1).toInt ∧ (x1).toInt ≤ 0) (hx2 : (0 : Int) ≤ (x2).toInt ∧ (x2).toInt ≤ 2147483647) (hx3 : (0 : Int) ≤ (x3).toInt ∧ (x3).toInt ≤ 9)    (hmu : 9 - (x3).toInt < n), Sf (mX7_finishedWidth_l15 135 n x1 x2 x3 M) (qMI g (-2147483648) (2147483647)) := by
  intro n
  induction n with
  | zero => intro x1 x2 x3 M h_M hx1 hx2 hx3 hmu; exfalso; omega
  | succ n IH => intro x1 x2 x3 M h_M hx1 hx2 hx3 hmu; exact sX7_finishedWidth_b15  h_M hx1 hx2 hx3    IH (by omega)
theorem sX7_finishedWidth_l15 {g : Gm}  {x1 : Int32} {x2 : Int32} {x3 : Int32} {M : Mem}  (h_M : OKm g M) (hx1 : (-2147483648 : Int) ≤ (x1).toInt ∧ (x1).toInt ≤ 0) (hx2 : (0 : Int) ≤ (x2).toInt ∧ (x2).toInt ≤ 2147483647) (hx3 : (0 : Int) ≤ (x3).toInt ∧ (x3).toInt ≤ 9)    (hmu : 9 - (x3).toInt < 5000) : Sf (mX7_finishedWidth_l15 135 5000 x1 x2 x3 M) (qMI g (-2147483648) (2147483647)) :=
  sX7_finishedWidth_l15_n   5000 _ _ _ M h_M hx1 hx2 hx3    hmu
set_option maxHeartbeats 2000000 in
theorem sX7_finishedWidth {g : Gm} {M : Mem} (h_M : OKm g M) : Sf (mX7_finishedWidth 135 M) (qMI g (-2147483648) (2147483647)) := by
  unfold mX7_finishedWidth
  refine Sf.b (fun M1 e_M1 => ?_)
  have h_M1 : OKm g M1 := by rw [e_M1]; exact h_M.put rfl (i_rng _)
  refine Sf.m (sX7_layFinished h_M1) (fun M5 _ h_M5 => ?_)
  have h_M5 : OKm g M5 := h_M5
  have n_2 : ((0 : Int32)).toInt = 0 := rfl
  have g_3 := i_rng (0 : Int32)
  exact (sX7_finishedWidth_l15 h_M5 ⟨by omega, by omega⟩ ⟨by omega, by omega⟩ ⟨by omega, by omega⟩ (by omega))
set_option maxHeartbeats 2000000 in
theorem sX7_finishedHeight_b15 {g : Gm} {ih15 : Int32 → Int32 → Int32 → Mem → Option (Mem × Int32)} {x1 : Int32} {x2 : Int32} {x3 : Int32} {M : Mem} {d15 : Nat} (h_M : OKm g M) (hx1 : (-2147483648 : Int) ≤ (x1).toInt ∧ (x1).toInt ≤ 0) (hx2 : (0 : Int) ≤ (x2).toInt ∧ (x2).toInt ≤ 2147483647) (hx3 : (0 : Int) ≤ (x3).toInt ∧ (x3).toInt ≤ 9) (hih15 : ∀ (yx1 : Int32) (yx2 : Int32) (yx3 : Int32) (M : Mem), OKm g M → ((-2147483648 : Int) ≤ (yx1).toInt ∧ (yx1).toInt ≤ 0) → ((0 : Int) ≤ (yx2).toInt ∧ (yx2).toInt ≤ 2147483647) → ((0 : Int) ≤ (yx3).toInt ∧ (yx3).toInt ≤ 9) → 9 - (yx3).toInt < d15 → Sf (ih15 yx1 yx2 yx3 M) (qMI g (-2147483648) (2147483647))) (hmu15 : 9 - (x3).toInt ≤ d15) : Sf (mX7_finishedHeight_b15 135 ih15 x1 x2 x3 M) (qMI g (-2147483648) (2147483647)) := by
  unfold mX7_finishedHeight_b15
  have n_1 : ((1 : Int32)).toInt = 1 := rfl
  refine Sf.k (ok_in (by omega) (by omega)) ?_
  have b_2 : (0 : Int) ≤ (rd M (135 + 1) (((1 : Int32)).toNatClampNeg)).toInt ∧ (rd M (135 + 1) (((1 : Int32)).toNatClampNeg)).toInt ≤ 9 := h_M.ri 1 1 (by decide +kernel) (by omega) (by omega)
  refine Sf.i (fun c_3 => ?_) (fun c_3 => ?_)
  · have c_3 := i_le.mp c_3
    exact Sf.ok ⟨h_M, (i_rng _)⟩
  · have c_3 := i_nle c_3
    refine Sf.k (ok_in (by omega) (by omega)) ?_
    have m_4 := i_min (a := x1) (b := (rd M (135 + 9) ((x3).toNatClampNeg)))
    refine Sf.b (fun x1_35 e_x1_35 => ?_)
    have d_x1_35 := congrArg Int32.toInt e_x1_35
    refine Sf.k (ok_in (by omega) (by omega)) ?_
    have m_5 := i_max (a := x2) (b := (rd M (135 + 9) ((x3).toNatClampNeg)))
    refine Sf.b (fun x2_46 e_x2_46 => ?_)
    have d_x2_46 := congrArg Int32.toInt e_x2_46
    try have a_6 : ((x3 + (1 : Int32))).toInt = (x3).toInt + ((1 : Int32)).toInt := i_add (by omega) (by omega)
    refine Sf.b (fun x3_47 e_x3_47 => ?_)
    have d_x3_47 := congrArg Int32.toInt e_x3_47
    have g_7 := i_rng x1_35
    have g_8 := i_rng x2_46
    exact (hih15 _ _ _ _ h_M ⟨by omega, by omega⟩ ⟨by omega, by omega⟩ ⟨by omega, by omega⟩ (by omega))
theorem sX7_finishedHeight_l15_n {g : Gm}    : ∀ (n : Nat) (x1 : Int32) (x2 : Int32) (x3 : Int32) (M : Mem) (h_M : OKm g M) (hx1 : (-2147483648 : Int) ≤ (x1).toInt ∧ (x1).toInt ≤ 0) (hx2 : (0 : Int) ≤ (x2).toInt ∧ (x2).toInt ≤ 2147483647) (hx3 : (0 : Int) ≤ (x3).toInt ∧ (x3).toInt ≤ 9)    (hmu : 9 - (x3).toInt < n), Sf (mX7_finishedHeight_l15 135 n x1 x2 x3 M) (qMI g (-2147483648) (2147483647)) := by
  intro n
  induction n with
  | zero => intro x1 x2 x3 M h_M hx1 hx2 hx3 hmu; exfalso; omega
  | succ n IH => intro x1 x2 x3 M h_M hx1 hx2 hx3 hmu; exact sX7_finishedHeight_b15  h_M hx1 hx2 hx3    IH (by omega)
theorem sX7_finishedHeight_l15 {g : Gm}  {x1 : Int32} {x2 : Int32} {x3 : Int32} {M : Mem}  (h_M : OKm g M) (hx1 : (-2147483648 : Int) ≤ (x1).toInt ∧ (x1).toInt ≤ 0) (hx2 : (0 : Int) ≤ (x2).toInt ∧ (x2).toInt ≤ 2147483647) (hx3 : (0 : Int) ≤ (x3).toInt ∧ (x3).toInt ≤ 9)    (hmu : 9 - (x3).toInt < 5000) : Sf (mX7_finishedHeight_l15 135 5000 x1 x2 x3 M) (qMI g (-2147483648) (2147483647)) :=
  sX7_finishedHeight_l15_n   5000 _ _ _ M h_M hx1 hx2 hx3    hmu
set_option maxHeartbeats 2000000 in
theorem sX7_finishedHeight {g : Gm} {M : Mem} (h_M : OKm g M) : Sf (mX7_finishedHeight 135 M) (qMI g (-2147483648) (2147483647)) := by
  unfold mX7_finishedHeight
  refine Sf.b (fun M1 e_M1 => ?_)
  have h_M1 : OKm g M1 := by rw [e_M1]; exact h_M.put rfl (i_rng _)
  refine Sf.m (sX7_layFinished h_M1) (fun M5 _ h_M5 => ?_)
  have h_M5 : OKm g M5 := h_M5
  have n_2 : ((0 : Int32)).toInt = 0 := rfl
  have g_3 := i_rng (0 : Int32)
  exact (sX7_finishedHeight_l15 h_M5 ⟨by omega, by omega⟩ ⟨by omega, by omega⟩ ⟨by omega, by omega⟩ (by omega))
set_option maxHeartbeats 2000000 in
theorem sX7_isFinishedCrossed {g : Gm} {M : Mem} (h_M : OKm g M) : Sf (mX7_isFinishedCrossed 135 M) (qMI g (0) (1)) := by
  unfold mX7_isFinishedCrossed
  refine Sf.b (fun M1 e_M1 => ?_)
  have h_M1 : OKm g M1 := by rw [e_M1]; exact h_M.put rfl (i_rng _)
  refine Sf.m (sX7_layFinished h_M1) (fun M5 _ h_M5 => ?_)
  have h_M5 : OKm g M5 := h_M5
  refine Sf.c (sX7_isCrossed h_M5) (fun r7 p_2 => ?_)
  obtain ⟨p_2a, p_2b⟩ := p_2
  refine Sf.k (isB_in ⟨by omega, by omega⟩) ?_
  have z_3 : (0 : Int) ≤ (r7).toInt ∧ (r7).toInt ≤ 1 := ⟨by omega, by omega⟩
  exact Sf.ok ⟨h_M5, z_3⟩
set_option maxHeartbeats 2000000 in
theorem sX7_finishedCorner {g : Gm} {x1 : Int32} {x2 : Int32} {M : Mem} (h_M : OKm g M) : Sf (mX7_finishedCorner 135 x1 x2 M) (qMI g (-2147483648) (2147483647)) := by
  unfold mX7_finishedCorner
  refine Sf.c (sX7_isLeg h_M) (fun r2 p_1 => ?_)
  have p_1 : (0 ≤ (r2).toInt ∧ (r2).toInt ≤ 1) ∧ ((r2).toInt = 0 ∨ (0 ≤ (x1).toInt ∧ (x1).toInt ≤ (rd M (135 + 1) ((1 : Int32)).toNatClampNeg).toInt - 1 ∧ (x1).toInt ≤ 8)) := p_1
  refine Sf.c (sX7_between (a := (x2).toInt) (b := 0) (c := 1) (Int32.toInt_toInt64 _) (by decide) (by decide)) (fun r5 p_2 => ?_)
  have p_2 : (0 ≤ (r5).toInt ∧ (r5).toInt ≤ 1) ∧ ((r5).toInt = 0 ∨ (0 ≤ (x2).toInt ∧ (x2).toInt ≤ 1)) := p_2
  refine Sf.m (sX7_good_ h_M) (fun M9 r8 p_3 => ?_)
  have h_M9 : OKm g M9 := p_3.1
  have p_3 : (0 ≤ (r8).toInt ∧ (r8).toInt ≤ 1) ∧ ((r8).toInt = 0 ∨ (¬ (r2).toInt = 0 ∧ ¬ (r5).toInt = 0)) := p_3.2
  have n_4 : ((0 : Int32)).toInt = 0 := rfl
  refine Sf.i (fun c_5 => ?_) (fun c_5 => ?_)
  · have c_5 := i_eq.mp c_5
    have n0_c_5 : ((0 : Int32)).toInt = 0 := rfl
    exact Sf.ok ⟨h_M9, (i_rng _)⟩
  · have c_5 := i_ne c_5
    have n0_c_5 : ((0 : Int32)).toInt = 0 := rfl
    refine Sf.m (sX7_layFinished h_M9) (fun M13 _ h_M13 => ?_)
    have h_M13 : OKm g M13 := h_M13
    refine Sf.i (fun c_7 => ?_) (fun c_7 => ?_)
    · have c_7 := i_eq.mp c_7
      refine Sf.k (ok_in (by omega) (by omega)) ?_
      exact Sf.ok ⟨h_M13, (i_rng _)⟩
    · have c_7 := i_ne c_7
      refine Sf.k (ok_in (by omega) (by omega)) ?_
      exact Sf.ok ⟨h_M13, (i_rng _)⟩
set_option maxHeartbeats 2000000 in
theorem sX7_sumOfCosts_b4 {g : Gm} {M : Mem} {ih4 : Int32 → Int32 → Option Int32} {x1 : Int32} {x2 : Int32} {d4 : Nat} (h_M : OKm g M) (hx2 : (0 : Int) ≤ (x2).toInt ∧ (x2).toInt ≤ 8) (hih4 : ∀ (yx1 : Int32) (yx2 : Int32), ((0 : Int) ≤ (yx2).toInt ∧ (yx2).toInt ≤ 8) → 8 - (yx2).toInt < d4 → Sf (ih4 yx1 yx2) (pI (-2147483648) (2147483647))) (hmu4 : 8 - (x2).toInt ≤ d4) : Sf (mX7_sumOfCosts_b4 135 M ih4 x1 x2) (pI (-2147483648) (2147483647)) := by
  unfold mX7_sumOfCosts_b4
  have n_1 : ((53 : Int32)).toInt = 53 := rfl
  refine Sf.k (ok_in (by omega) (by omega)) ?_
  have b_2 : (0 : Int) ≤ (rd M (135 + 1) (((53 : Int32)).toNatClampNeg)).toInt ∧ (rd M (135 + 1) (((53 : Int32)).toNatClampNeg)).toInt ≤ 8 := h_M.ri 53 53 (by decide +kernel) (by omega) (by omega)
  refine Sf.i (fun c_3 => ?_) (fun c_3 => ?_)
  · have c_3 := i_le.mp c_3
    exact Sf.ok (i_rng _)
  · have c_3 := i_nle c_3
    have n_5 : ((3 : Int32)).toInt = 3 := rfl
    refine Sf.c (sX7_stepOf3 h_M ⟨by omega, by omega⟩) (fun r4 p_4 => ?_)
    obtain ⟨p_4a, p_4b⟩ := p_4
    refine Sf.b (fun x1_23 e_x1_23 => ?_)
    have d_x1_23 := congrArg Int32.toInt e_x1_23
    have n_6 : ((1 : Int32)).toInt = 1 := rfl
    try have a_7 : ((x2 + (1 : Int32))).toInt = (x2).toInt + ((1 : Int32)).toInt := i_add (by omega) (by omega)
    refine Sf.b (fun x2_24 e_x2_24 => ?_)
    have d_x2_24 := congrArg Int32.toInt e_x2_24
    exact (hih4 _ _ ⟨by omega, by omega⟩ (by omega))
theorem sX7_sumOfCosts_l4_n {g : Gm}  {M : Mem}  (h_M : OKm g M)   : ∀ (n : Nat) (x1 : Int32) (x2 : Int32) (hx2 : (0 : Int) ≤ (x2).toInt ∧ (x2).toInt ≤ 8)   (hmu : 8 - (x2).toInt < n), Sf (mX7_sumOfCosts_l4 135 M n x1 x2) (pI (-2147483648) (2147483647)) := by
  intro n
  induction n with
  | zero => intro x1 x2 hx2 hmu; exfalso; omega
  | succ n IH => intro x1 x2 hx2 hmu; exact sX7_sumOfCosts_b4  h_M hx2    IH (by omega)
theorem sX7_sumOfCosts_l4 {g : Gm}  {M : Mem} {x1 : Int32} {x2 : Int32}  (h_M : OKm g M) (hx2 : (0 : Int) ≤ (x2).toInt ∧ (x2).toInt ≤ 8)    (hmu : 8 - (x2).toInt < 5000) : Sf (mX7_sumOfCosts_l4 135 M 5000 x1 x2) (pI (-2147483648) (2147483647)) :=
  sX7_sumOfCosts_l4_n  h_M   5000 _ _ hx2   hmu
set_option maxHeartbeats 2000000 in
theorem sX7_sumOfCosts {g : Gm} {M : Mem} (h_M : OKm g M) : Sf (mX7_sumOfCosts 135 M) (pI (-2147483648) (2147483647)) := by
  unfold mX7_sumOfCosts
  have n_1 : ((0 : Int32)).toInt = 0 := rfl
  exact (sX7_sumOfCosts_l4 h_M ⟨by omega, by omega⟩ (by omega))
set_option maxHeartbeats 2000000 in
theorem sX7_made {g : Gm} {M : Mem} (h_M : OKm g M) : Sf (mX7_made 135 M) (qMI g (0) (9999)) := by
  unfold mX7_made
  have n_1 : ((52 : Int32)).toInt = 52 := rfl
  refine Sf.m (sX7_tellNow h_M ⟨by omega, by omega⟩) (fun M3 r2 p_2 => ?_)
  have h_M3 : OKm g M3 := p_2.1
  have p_2 : (0 : Int) ≤ (r2).toInt ∧ (r2).toInt ≤ (9999 : Int) := p_2.2
  have z_3 : (0 : Int) ≤ (r2).toInt ∧ (r2).toInt ≤ 9999 := ⟨by omega, by omega⟩
  exact Sf.ok ⟨h_M3, z_3⟩
set_option maxHeartbeats 2000000 in
theorem sX7_steps {g : Gm} {M : Mem} (h_M : OKm g M) : Sf (mX7_steps 135 M) (qMI g (0) (9999)) := by
  unfold mX7_steps
  have n_1 : ((53 : Int32)).toInt = 53 := rfl
  refine Sf.m (sX7_tellNow h_M ⟨by omega, by omega⟩) (fun M3 r2 p_2 => ?_)
  have h_M3 : OKm g M3 := p_2.1
  have p_2 : (0 : Int) ≤ (r2).toInt ∧ (r2).toInt ≤ (9999 : Int) := p_2.2
  have z_3 : (0 : Int) ≤ (r2).toInt ∧ (r2).toInt ≤ 9999 := ⟨by omega, by omega⟩
  exact Sf.ok ⟨h_M3, z_3⟩
set_option maxHeartbeats 2000000 in
theorem sX7_step {g : Gm} {x1 : Int32} {x2 : Int32} {M : Mem} (h_M : OKm g M) : Sf (mX7_step 135 x1 x2 M) (qMI g (-2147483648) (2147483647)) := by
  unfold mX7_step
  have n_1 : ((53 : Int32)).toInt = 53 := rfl
  refine Sf.k (ok_in (by omega) (by omega)) ?_
  have b_3 : (0 : Int) ≤ (rd M (135 + 1) (((53 : Int32)).toNatClampNeg)).toInt ∧ (rd M (135 + 1) (((53 : Int32)).toNatClampNeg)).toInt ≤ 8 := h_M.ri 53 53 (by decide +kernel) (by omega) (by omega)
  have n_4 : ((1 : Int32)).toInt = 1 := rfl
  try have a_5 : (((rd M (135 + 1) (((53 : Int32)).toNatClampNeg)) - (1 : Int32))).toInt = ((rd M (135 + 1) (((53 : Int32)).toNatClampNeg))).toInt - ((1 : Int32)).toInt := i_sub (by omega) (by omega)
  refine Sf.c (sX7_between (a := (x1).toInt) (b := 0) (c := (((rd M (135 + 1) (((53 : Int32)).toNatClampNeg)) - (1 : Int32))).toInt) (Int32.toInt_toInt64 _) (by decide) (Int32.toInt_toInt64 _)) (fun r3 p_2 => ?_)
  have p_2 : (0 ≤ (r3).toInt ∧ (r3).toInt ≤ 1) ∧ ((r3).toInt = 0 ∨ (0 ≤ (x1).toInt ∧ (x1).toInt ≤ (((rd M (135 + 1) (((53 : Int32)).toNatClampNeg)) - (1 : Int32))).toInt)) := p_2
  refine Sf.c (sX7_between (a := (x2).toInt) (b := 0) (c := 3) (Int32.toInt_toInt64 _) (by decide) (by decide)) (fun r6 p_6 => ?_)
  have p_6 : (0 ≤ (r6).toInt ∧ (r6).toInt ≤ 1) ∧ ((r6).toInt = 0 ∨ (0 ≤ (x2).toInt ∧ (x2).toInt ≤ 3)) := p_6
  refine Sf.m (sX7_good_ h_M) (fun M10 r9 p_7 => ?_)
  have h_M10 : OKm g M10 := p_7.1
  have p_7 : (0 ≤ (r9).toInt ∧ (r9).toInt ≤ 1) ∧ ((r9).toInt = 0 ∨ (¬ (r3).toInt = 0 ∧ ¬ (r6).toInt = 0)) := p_7.2
  have n_8 : ((0 : Int32)).toInt = 0 := rfl
  refine Sf.i (fun c_9 => ?_) (fun c_9 => ?_)
  · have c_9 := i_eq.mp c_9
    have n0_c_9 : ((0 : Int32)).toInt = 0 := rfl
    exact Sf.ok ⟨h_M10, (i_rng _)⟩
  · have c_9 := i_ne c_9
    have n0_c_9 : ((0 : Int32)).toInt = 0 := rfl
    refine Sf.c (sX7_stepOfx ⟨by omega, by omega⟩ ⟨by omega, by omega⟩) (fun r13 p_10 => ?_)
    exact Sf.ok ⟨h_M10, (i_rng _)⟩
set_option maxHeartbeats 2000000 in
theorem sX7_costSoFar {g : Gm} {M : Mem} (h_M : OKm g M) : Sf (mX7_costSoFar 135 M) (qMI g (-2147483648) (2147483647)) := by
  unfold mX7_costSoFar
  refine Sf.b (fun M1 e_M1 => ?_)
  have h_M1 : OKm g M1 := by rw [e_M1]; exact h_M.put rfl (i_rng _)
  refine Sf.c (sX7_sumOfCosts h_M1) (fun r4 p_1 => ?_)
  obtain ⟨p_1a, p_1b⟩ := p_1
  exact Sf.ok ⟨h_M1, (i_rng _)⟩
set_option maxHeartbeats 2000000 in
theorem sX7_reason {g : Gm} {x1 : Int32} {x2 : Int32} {M : Mem} (h_M : OKm g M) : Sf (mX7_reason 135 x1 x2 M) (qMI g (0) (6)) := by
  unfold mX7_reason
  refine Sf.c (sX7_isBend h_M) (fun r2 p_1 => ?_)
  have p_1 : (0 ≤ (r2).toInt ∧ (r2).toInt ≤ 1) ∧ ((r2).toInt = 0 ∨ (0 ≤ (x1).toInt ∧ (x1).toInt ≤ (rd M (135 + 1) ((0 : Int32)).toNatClampNeg).toInt - 1 ∧ (x1).toInt ≤ 7)) := p_1
  refine Sf.c sX7_isSide (fun r5 p_2 => ?_)
  have p_2 : (0 ≤ (r5).toInt ∧ (r5).toInt ≤ 1) ∧ ((r5).toInt = 0 ∨ (0 ≤ (x2).toInt ∧ (x2).toInt ≤ 1)) := p_2
  refine Sf.m (sX7_good_ h_M) (fun M9 r8 p_3 => ?_)
  have h_M9 : OKm g M9 := p_3.1
  have p_3 : (0 ≤ (r8).toInt ∧ (r8).toInt ≤ 1) ∧ ((r8).toInt = 0 ∨ (¬ (r2).toInt = 0 ∧ ¬ (r5).toInt = 0)) := p_3.2
  have n_4 : ((0 : Int32)).toInt = 0 := rfl
  refine Sf.i (fun c_5 => ?_) (fun c_5 => ?_)
  · have c_5 := i_eq.mp c_5
    have n0_c_5 : ((0 : Int32)).toInt = 0 := rfl
    have n_6 : ((0 : Int32)).toInt = 0 := rfl
    have z_7 : (0 : Int) ≤ ((0 : Int32)).toInt ∧ ((0 : Int32)).toInt ≤ 6 := ⟨by omega, by omega⟩
    exact Sf.ok ⟨h_M9, z_7⟩
  · have c_5 := i_ne c_5
    have n0_c_5 : ((0 : Int32)).toInt = 0 := rfl
    have n_8 : ((52 : Int32)).toInt = 52 := rfl
    refine Sf.k (ok_in (by omega) (by omega)) ?_
    have b_9 : (0 : Int) ≤ (rd M9 (135 + 1) (((52 : Int32)).toNatClampNeg)).toInt ∧ (rd M9 (135 + 1) (((52 : Int32)).toNatClampNeg)).toInt ≤ 255 := h_M9.ri 52 52 (by decide +kernel) (by omega) (by omega)
    refine Sf.m (sX7_reasonOf h_M9 ⟨by omega, by omega⟩ ⟨by omega, by omega⟩ ⟨by omega, by omega⟩) (fun M14 r13 p_10 => ?_)
    have h_M14 : OKm g M14 := p_10.1
    have p_10 : (0 : Int) ≤ (r13).toInt ∧ (r13).toInt ≤ (6 : Int) := p_10.2
    have z_11 : (0 : Int) ≤ (r13).toInt ∧ (r13).toInt ≤ 6 := ⟨by omega, by omega⟩
    exact Sf.ok ⟨h_M14, z_11⟩
set_option maxHeartbeats 2000000 in
theorem sX7_gaugeOf {g : Gm} {x1 : Int32} {x2 : Int32} {x3 : Int32} {M : Mem} (h_M : OKm g M) (hx1 : (0 : Int) ≤ (x1).toInt ∧ (x1).toInt ≤ 7) (hx2 : (0 : Int) ≤ (x2).toInt ∧ (x2).toInt ≤ 1) (hx3 : (0 : Int) ≤ (x3).toInt ∧ (x3).toInt ≤ 255) : Sf (mX7_gaugeOf 135 x1 x2 x3 M) (qMI g (0) (2147483647)) := by
  unfold mX7_gaugeOf
  refine Sf.m (sX7_laySheet h_M ⟨by omega, by omega⟩ ⟨by omega, by omega⟩ ⟨by omega, by omega⟩) (fun M3 _ h_M3 => ?_)
  have h_M3 : OKm g M3 := h_M3
  refine Sf.c (sX7_gaugeLaid h_M3 ⟨by omega, by omega⟩ ⟨by omega, by omega⟩) (fun r5 p_2 => ?_)
  obtain ⟨p_2a, p_2b⟩ := p_2
  have z_3 : (0 : Int) ≤ (r5).toInt ∧ (r5).toInt ≤ 2147483647 := ⟨by omega, by omega⟩
  exact Sf.ok ⟨h_M3, z_3⟩
set_option maxHeartbeats 2000000 in
theorem sX7_gauge {g : Gm} {x1 : Int32} {x2 : Int32} {M : Mem} (h_M : OKm g M) : Sf (mX7_gauge 135 x1 x2 M) (qMI g (0) (2147483647)) := by
  unfold mX7_gauge
  refine Sf.c (sX7_isBend h_M) (fun r2 p_1 => ?_)
  have p_1 : (0 ≤ (r2).toInt ∧ (r2).toInt ≤ 1) ∧ ((r2).toInt = 0 ∨ (0 ≤ (x1).toInt ∧ (x1).toInt ≤ (rd M (135 + 1) ((0 : Int32)).toNatClampNeg).toInt - 1 ∧ (x1).toInt ≤ 7)) := p_1
  refine Sf.c sX7_isSide (fun r5 p_2 => ?_)
  have p_2 : (0 ≤ (r5).toInt ∧ (r5).toInt ≤ 1) ∧ ((r5).toInt = 0 ∨ (0 ≤ (x2).toInt ∧ (x2).toInt ≤ 1)) := p_2
  refine Sf.m (sX7_good_ h_M) (fun M9 r8 p_3 => ?_)
  have h_M9 : OKm g M9 := p_3.1
  have p_3 : (0 ≤ (r8).toInt ∧ (r8).toInt ≤ 1) ∧ ((r8).toInt = 0 ∨ (¬ (r2).toInt = 0 ∧ ¬ (r5).toInt = 0)) := p_3.2
  have n_4 : ((0 : Int32)).toInt = 0 := rfl
  refine Sf.i (fun c_5 => ?_) (fun c_5 => ?_)
  · have c_5 := i_eq.mp c_5
    have n0_c_5 : ((0 : Int32)).toInt = 0 := rfl
    have n_6 : ((0 : Int32)).toInt = 0 := rfl
    have z_7 : (0 : Int) ≤ ((0 : Int32)).toInt ∧ ((0 : Int32)).toInt ≤ 2147483647 := ⟨by omega, by omega⟩
    exact Sf.ok ⟨h_M9, z_7⟩
  · have c_5 := i_ne c_5
    have n0_c_5 : ((0 : Int32)).toInt = 0 := rfl
    have n_8 : ((52 : Int32)).toInt = 52 := rfl
    refine Sf.k (ok_in (by omega) (by omega)) ?_
    have b_9 : (0 : Int) ≤ (rd M9 (135 + 1) (((52 : Int32)).toNatClampNeg)).toInt ∧ (rd M9 (135 + 1) (((52 : Int32)).toNatClampNeg)).toInt ≤ 255 := h_M9.ri 52 52 (by decide +kernel) (by omega) (by omega)
    refine Sf.m (sX7_gaugeOf h_M9 ⟨by omega, by omega⟩ ⟨by omega, by omega⟩ ⟨by omega, by omega⟩) (fun M14 r13 p_10 => ?_)
    have h_M14 : OKm g M14 := p_10.1
    have p_10 : (0 : Int) ≤ (r13).toInt ∧ (r13).toInt ≤ (2147483647 : Int) := p_10.2
    have z_11 : (0 : Int) ≤ (r13).toInt ∧ (r13).toInt ≤ 2147483647 := ⟨by omega, by omega⟩
    exact Sf.ok ⟨h_M14, z_11⟩
set_option maxHeartbeats 2000000 in
theorem sX7_top_b73 {g : Gm} {ih36 : Int32 → Int32 → Int32 → Int32 → Mem → Option (Mem × Int32)} {x1 : Int32} {x2 : Int32} {x4 : Int32} {y0 : Int32} {M : Mem} {d36 : Nat} (h_M : OKm g M) (hx1 : (0 : Int) ≤ (x1).toInt ∧ (x1).toInt ≤ 7) (hx2 : (0 : Int) ≤ (x2).toInt ∧ (x2).toInt ≤ 1) (hx4 : (0 : Int) ≤ (x4).toInt ∧ (x4).toInt ≤ 8) (hy0 : (0 : Int) ≤ (y0).toInt ∧ (y0).toInt ≤ 2147483647) (he0 : (1 : Int) ≤ (rd M (135 + 1) ((((1 : Int32)).toNatClampNeg))).toInt ∧ (rd M (135 + 1) ((((1 : Int32)).toNatClampNeg))).toInt ≤ 9) (hih36 : ∀ (yx1 : Int32) (yx2 : Int32) (yx3 : Int32) (yx4 : Int32) (M : Mem), OKm g M → ((0 : Int) ≤ (yx1).toInt ∧ (yx1).toInt ≤ 7) → ((0 : Int) ≤ (yx2).toInt ∧ (yx2).toInt ≤ 1) → ((0 : Int) ≤ (yx3).toInt ∧ (yx3).toInt ≤ 2147483647) → ((0 : Int) ≤ (yx4).toInt ∧ (yx4).toInt ≤ 9) → 9 - (yx4).toInt < d36 → Sf (ih36 yx1 yx2 yx3 yx4 M) (qMI g (0) (2147483647))) (hmu36 : 9 - (x4).toInt ≤ d36) : Sf (mX7_top_b73 135 ih36 x1 x2 x4 y0 M) (qMI g (0) (2147483647)) := by
  unfold mX7_top_b73
  have n_1 : ((1 : Int32)).toInt = 1 := rfl
  try have a_2 : ((x4 + (1 : Int32))).toInt = (x4).toInt + ((1 : Int32)).toInt := i_add (by omega) (by omega)
  refine Sf.b (fun x4_74 e_x4_74 => ?_)
  have d_x4_74 := congrArg Int32.toInt e_x4_74
  have g_3 := i_rng y0
  exact (hih36 _ _ _ _ _ h_M ⟨by omega, by omega⟩ ⟨by omega, by omega⟩ ⟨by omega, by omega⟩ ⟨by omega, by omega⟩ (by omega))
set_option maxHeartbeats 2000000 in
theorem sX7_top_b36 {g : Gm} {ih36 : Int32 → Int32 → Int32 → Int32 → Mem → Option (Mem × Int32)} {x1 : Int32} {x2 : Int32} {x3 : Int32} {x4 : Int32} {M : Mem} {d36 : Nat} (h_M : OKm g M) (hx1 : (0 : Int) ≤ (x1).toInt ∧ (x1).toInt ≤ 7) (hx2 : (0 : Int) ≤ (x2).toInt ∧ (x2).toInt ≤ 1) (hx3 : (0 : Int) ≤ (x3).toInt ∧ (x3).toInt ≤ 2147483647) (hx4 : (0 : Int) ≤ (x4).toInt ∧ (x4).toInt ≤ 9) (hih36 : ∀ (yx1 : Int32) (yx2 : Int32) (yx3 : Int32) (yx4 : Int32) (M : Mem), OKm g M → ((0 : Int) ≤ (yx1).toInt ∧ (yx1).toInt ≤ 7) → ((0 : Int) ≤ (yx2).toInt ∧ (yx2).toInt ≤ 1) → ((0 : Int) ≤ (yx3).toInt ∧ (yx3).toInt ≤ 2147483647) → ((0 : Int) ≤ (yx4).toInt ∧ (yx4).toInt ≤ 9) → 9 - (yx4).toInt < d36 → Sf (ih36 yx1 yx2 yx3 yx4 M) (qMI g (0) (2147483647))) (hmu36 : 9 - (x4).toInt ≤ d36) : Sf (mX7_top_b36 135 ih36 x1 x2 x3 x4 M) (qMI g (0) (2147483647)) := by
  unfold mX7_top_b36
  have n_1 : ((1 : Int32)).toInt = 1 := rfl
  refine Sf.k (ok_in (by omega) (by omega)) ?_
  have b_2 : (0 : Int) ≤ (rd M (135 + 1) (((1 : Int32)).toNatClampNeg)).toInt ∧ (rd M (135 + 1) (((1 : Int32)).toNatClampNeg)).toInt ≤ 9 := h_M.ri 1 1 (by decide +kernel) (by omega) (by omega)
  refine Sf.i (fun c_3 => ?_) (fun c_3 => ?_)
  · have c_3 := i_le.mp c_3
    have z_4 : (0 : Int) ≤ (x3).toInt ∧ (x3).toInt ≤ 2147483647 := ⟨by omega, by omega⟩
    exact Sf.ok ⟨h_M, z_4⟩
  · have c_3 := i_nle c_3
    refine Sf.c (sX7_isClamped h_M ⟨by omega, by omega⟩ ⟨by omega, by omega⟩ ⟨by omega, by omega⟩) (fun r18 p_5 => ?_)
    obtain ⟨p_5a, p_5b⟩ := p_5
    have n_6 : ((0 : Int32)).toInt = 0 := rfl
    refine Sf.i (fun c_7 => ?_) (fun c_7 => ?_)
    · have c_7 := i_eq.mp c_7
      refine Sf.k (ok_in (by omega) (by omega)) ?_
      have m_8 := i_max (a := x3) (b := (rd M (135 + 9) ((x4).toNatClampNeg)))
      have g_9 := i_rng (imax x3 (rd M (135 + 9) ((x4).toNatClampNeg)))
      exact (sX7_top_b73 h_M ⟨by omega, by omega⟩ ⟨by omega, by omega⟩ ⟨by omega, by omega⟩ ⟨by omega, by omega⟩ ⟨by omega, by omega⟩ hih36 (by omega))
    · have c_7 := i_ne c_7
      have g_10 := i_rng x3
      exact (sX7_top_b73 h_M ⟨by omega, by omega⟩ ⟨by omega, by omega⟩ ⟨by omega, by omega⟩ ⟨by omega, by omega⟩ ⟨by omega, by omega⟩ hih36 (by omega))
theorem sX7_top_l36_n {g : Gm}    : ∀ (n : Nat) (x1 : Int32) (x2 : Int32) (x3 : Int32) (x4 : Int32) (M : Mem) (h_M : OKm g M) (hx1 : (0 : Int) ≤ (x1).toInt ∧ (x1).toInt ≤ 7) (hx2 : (0 : Int) ≤ (x2).toInt ∧ (x2).toInt ≤ 1) (hx3 : (0 : Int) ≤ (x3).toInt ∧ (x3).toInt ≤ 2147483647) (hx4 : (0 : Int) ≤ (x4).toInt ∧ (x4).toInt ≤ 9)    (hmu : 9 - (x4).toInt < n), Sf (mX7_top_l36 135 n x1 x2 x3 x4 M) (qMI g (0) (2147483647)) := by
  intro n
  induction n with
  | zero => intro x1 x2 x3 x4 M h_M hx1 hx2 hx3 hx4 hmu; exfalso; omega
  | succ n IH => intro x1 x2 x3 x4 M h_M hx1 hx2 hx3 hx4 hmu; exact sX7_top_b36  h_M hx1 hx2 hx3 hx4    IH (by omega)
theorem sX7_top_l36 {g : Gm}  {x1 : Int32} {x2 : Int32} {x3 : Int32} {x4 : Int32} {M : Mem}  (h_M : OKm g M) (hx1 : (0 : Int) ≤ (x1).toInt ∧ (x1).toInt ≤ 7) (hx2 : (0 : Int) ≤ (x2).toInt ∧ (x2).toInt ≤ 1) (hx3 : (0 : Int) ≤ (x3).toInt ∧ (x3).toInt ≤ 2147483647) (hx4 : (0 : Int) ≤ (x4).toInt ∧ (x4).toInt ≤ 9)    (hmu : 9 - (x4).toInt < 5000) : Sf (mX7_top_l36 135 5000 x1 x2 x3 x4 M) (qMI g (0) (2147483647)) :=
  sX7_top_l36_n   5000 _ _ _ _ M h_M hx1 hx2 hx3 hx4    hmu
set_option maxHeartbeats 2000000 in
theorem sX7_top {g : Gm} {x1 : Int32} {x2 : Int32} {M : Mem} (h_M : OKm g M) : Sf (mX7_top 135 x1 x2 M) (qMI g (0) (2147483647)) := by
  unfold mX7_top
  refine Sf.c (sX7_isBend h_M) (fun r2 p_1 => ?_)
  have p_1 : (0 ≤ (r2).toInt ∧ (r2).toInt ≤ 1) ∧ ((r2).toInt = 0 ∨ (0 ≤ (x1).toInt ∧ (x1).toInt ≤ (rd M (135 + 1) ((0 : Int32)).toNatClampNeg).toInt - 1 ∧ (x1).toInt ≤ 7)) := p_1
  refine Sf.c sX7_isSide (fun r5 p_2 => ?_)
  have p_2 : (0 ≤ (r5).toInt ∧ (r5).toInt ≤ 1) ∧ ((r5).toInt = 0 ∨ (0 ≤ (x2).toInt ∧ (x2).toInt ≤ 1)) := p_2
  refine Sf.m (sX7_good_ h_M) (fun M9 r8 p_3 => ?_)
  have h_M9 : OKm g M9 := p_3.1
  have p_3 : (0 ≤ (r8).toInt ∧ (r8).toInt ≤ 1) ∧ ((r8).toInt = 0 ∨ (¬ (r2).toInt = 0 ∧ ¬ (r5).toInt = 0)) := p_3.2
  have n_4 : ((0 : Int32)).toInt = 0 := rfl
  refine Sf.i (fun c_5 => ?_) (fun c_5 => ?_)
  · have c_5 := i_eq.mp c_5
    have n0_c_5 : ((0 : Int32)).toInt = 0 := rfl
    have n_6 : ((0 : Int32)).toInt = 0 := rfl
    have z_7 : (0 : Int) ≤ ((0 : Int32)).toInt ∧ ((0 : Int32)).toInt ≤ 2147483647 := ⟨by omega, by omega⟩
    exact Sf.ok ⟨h_M9, z_7⟩
  · have c_5 := i_ne c_5
    have n0_c_5 : ((0 : Int32)).toInt = 0 := rfl
    have n_8 : ((52 : Int32)).toInt = 52 := rfl
    refine Sf.k (ok_in (by omega) (by omega)) ?_
    have b_9 : (0 : Int) ≤ (rd M9 (135 + 1) (((52 : Int32)).toNatClampNeg)).toInt ∧ (rd M9 (135 + 1) (((52 : Int32)).toNatClampNeg)).toInt ≤ 255 := h_M9.ri 52 52 (by decide +kernel) (by omega) (by omega)
    refine Sf.m (sX7_laySheet h_M9 ⟨by omega, by omega⟩ ⟨by omega, by omega⟩ ⟨by omega, by omega⟩) (fun M14 _ h_M14 => ?_)
    have h_M14 : OKm g M14 := h_M14
    have n_11 : ((0 : Int32)).toInt = 0 := rfl
    have g_12 := i_rng (0 : Int32)
    exact (sX7_top_l36 h_M14 ⟨by omega, by omega⟩ ⟨by omega, by omega⟩ ⟨by omega, by omega⟩ ⟨by omega, by omega⟩ (by omega))
set_option maxHeartbeats 2000000 in
theorem sX7_hitting {g : Gm} {x1 : Int32} {x2 : Int32} {M : Mem} (h_M : OKm g M) : Sf (mX7_hitting 135 x1 x2 M) (qMI g (0) (4095)) := by
  unfold mX7_hitting
  refine Sf.c (sX7_isBend h_M) (fun r2 p_1 => ?_)
  have p_1 : (0 ≤ (r2).toInt ∧ (r2).toInt ≤ 1) ∧ ((r2).toInt = 0 ∨ (0 ≤ (x1).toInt ∧ (x1).toInt ≤ (rd M (135 + 1) ((0 : Int32)).toNatClampNeg).toInt - 1 ∧ (x1).toInt ≤ 7)) := p_1
  refine Sf.c sX7_isSide (fun r5 p_2 => ?_)
  have p_2 : (0 ≤ (r5).toInt ∧ (r5).toInt ≤ 1) ∧ ((r5).toInt = 0 ∨ (0 ≤ (x2).toInt ∧ (x2).toInt ≤ 1)) := p_2
  refine Sf.m (sX7_good_ h_M) (fun M9 r8 p_3 => ?_)
  have h_M9 : OKm g M9 := p_3.1
  have p_3 : (0 ≤ (r8).toInt ∧ (r8).toInt ≤ 1) ∧ ((r8).toInt = 0 ∨ (¬ (r2).toInt = 0 ∧ ¬ (r5).toInt = 0)) := p_3.2
  have n_4 : ((0 : Int32)).toInt = 0 := rfl
  refine Sf.i (fun c_5 => ?_) (fun c_5 => ?_)
  · have c_5 := i_eq.mp c_5
    have n0_c_5 : ((0 : Int32)).toInt = 0 := rfl
    have n_6 : ((0 : Int32)).toInt = 0 := rfl
    have z_7 : (0 : Int) ≤ ((0 : Int32)).toInt ∧ ((0 : Int32)).toInt ≤ 4095 := ⟨by omega, by omega⟩
    exact Sf.ok ⟨h_M9, z_7⟩
  · have c_5 := i_ne c_5
    have n0_c_5 : ((0 : Int32)).toInt = 0 := rfl
    have n_8 : ((52 : Int32)).toInt = 52 := rfl
    refine Sf.k (ok_in (by omega) (by omega)) ?_
    have b_9 : (0 : Int) ≤ (rd M9 (135 + 1) (((52 : Int32)).toNatClampNeg)).toInt ∧ (rd M9 (135 + 1) (((52 : Int32)).toNatClampNeg)).toInt ≤ 255 := h_M9.ri 52 52 (by decide +kernel) (by omega) (by omega)
    refine Sf.m (sX7_laySheet h_M9 ⟨by omega, by omega⟩ ⟨by omega, by omega⟩ ⟨by omega, by omega⟩) (fun M14 _ h_M14 => ?_)
    have h_M14 : OKm g M14 := h_M14
    have n_11 : ((1 : Int32)).toInt = 1 := rfl
    refine Sf.c (sX7_hittingLaid h_M14 ⟨by omega, by omega⟩ ⟨by omega, by omega⟩ ⟨by omega, by omega⟩ ⟨by omega, by omega⟩) (fun r16 p_12 => ?_)
    obtain ⟨p_12a, p_12b⟩ := p_12
    have z_13 : (0 : Int) ≤ (r16).toInt ∧ (r16).toInt ≤ 4095 := ⟨by omega, by omega⟩
    exact Sf.ok ⟨h_M14, z_13⟩
set_option maxHeartbeats 2000000 in
theorem sX7_refused_b61 {g : Gm} {ih22 : Int32 → Int32 → Int32 → Mem → Option (Mem × Int32)} {x1 : Int32} {x3 : Int32} {y0 : Int32} {y1 : Int32} {M : Mem} {d22 : Nat} (h_M : OKm g M) (hx1 : (1 : Int) ≤ (x1).toInt ∧ (x1).toInt ≤ 6) (hx3 : (0 : Int) ≤ (x3).toInt ∧ (x3).toInt ≤ 15) (hy1 : (0 : Int) ≤ (y1).toInt ∧ (y1).toInt ≤ 1) (hih22 : ∀ (yx1 : Int32) (yx2 : Int32) (yx3 : Int32) (M : Mem), OKm g M → ((1 : Int) ≤ (yx1).toInt ∧ (yx1).toInt ≤ 6) → ((0 : Int) ≤ (yx3).toInt ∧ (yx3).toInt ≤ 16) → 16 - (yx3).toInt < d22 → Sf (ih22 yx1 yx2 yx3 M) (qMI g (-2147483648) (2147483647))) (hmu22 : 16 - (x3).toInt ≤ d22) : Sf (mX7_refused_b61 135 ih22 x1 x3 y0 y1 M) (qMI g (-2147483648) (2147483647)) := by
  unfold mX7_refused_b61
  refine Sf.b (fun x2_62 e_x2_62 => ?_)
  have d_x2_62 := congrArg Int32.toInt e_x2_62
  have n_1 : ((1 : Int32)).toInt = 1 := rfl
  try have a_2 : ((x3 + (1 : Int32))).toInt = (x3).toInt + ((1 : Int32)).toInt := i_add (by omega) (by omega)
  refine Sf.b (fun x3_63 e_x3_63 => ?_)
  have d_x3_63 := congrArg Int32.toInt e_x3_63
  exact (hih22 _ _ _ _ h_M ⟨by omega, by omega⟩ ⟨by omega, by omega⟩ (by omega))
set_option maxHeartbeats 2000000 in
theorem sX7_refused_b22 {g : Gm} {ih22 : Int32 → Int32 → Int32 → Mem → Option (Mem × Int32)} {x1 : Int32} {x2 : Int32} {x3 : Int32} {M : Mem} {d22 : Nat} (h_M : OKm g M) (hx1 : (1 : Int) ≤ (x1).toInt ∧ (x1).toInt ≤ 6) (hx3 : (0 : Int) ≤ (x3).toInt ∧ (x3).toInt ≤ 16) (hih22 : ∀ (yx1 : Int32) (yx2 : Int32) (yx3 : Int32) (M : Mem), OKm g M → ((1 : Int) ≤ (yx1).toInt ∧ (yx1).toInt ≤ 6) → ((0 : Int) ≤ (yx3).toInt ∧ (yx3).toInt ≤ 16) → 16 - (yx3).toInt < d22 → Sf (ih22 yx1 yx2 yx3 M) (qMI g (-2147483648) (2147483647))) (hmu22 : 16 - (x3).toInt ≤ d22) : Sf (mX7_refused_b22 135 ih22 x1 x2 x3 M) (qMI g (-2147483648) (2147483647)) := by
  unfold mX7_refused_b22
  have n_1 : ((0 : Int32)).toInt = 0 := rfl
  refine Sf.k (ok_in (by omega) (by omega)) ?_
  have n_2 : ((2 : Int32)).toInt = 2 := rfl
  have b_3 : (0 : Int) ≤ (rd M (135 + 1) (((0 : Int32)).toNatClampNeg)).toInt ∧ (rd M (135 + 1) (((0 : Int32)).toNatClampNeg)).toInt ≤ 8 := h_M.ri 0 0 (by decide +kernel) (by omega) (by omega)
  try have a_4 : (((2 : Int32) * (rd M (135 + 1) (((0 : Int32)).toNatClampNeg)))).toInt = 2 * ((rd M (135 + 1) (((0 : Int32)).toNatClampNeg))).toInt := i_mulc (by omega) (by omega) (by omega)
  refine Sf.i (fun c_5 => ?_) (fun c_5 => ?_)
  · have c_5 := i_le.mp c_5
    exact Sf.ok ⟨h_M, (i_rng _)⟩
  · have c_5 := i_nle c_5
    have n_6 : ((52 : Int32)).toInt = 52 := rfl
    refine Sf.k (ok_in (by omega) (by omega)) ?_
    try have a_7 : ((x3 / (2 : Int32))).toInt = (x3).toInt / 2 := (i_div (by omega) (by omega)).trans (by rw [show ((2 : Int32)).toInt = 2 from rfl])
    try have a_8 : (((x3 / (2 : Int32)) * (2 : Int32))).toInt = ((x3 / (2 : Int32))).toInt * 2 := i_mulr (by omega) (by omega) (by omega)
    try have a_9 : ((x3 - ((x3 / (2 : Int32)) * (2 : Int32)))).toInt = (x3).toInt - (((x3 / (2 : Int32)) * (2 : Int32))).toInt := i_sub (by omega) (by omega)
    have b_10 : (0 : Int) ≤ (rd M (135 + 1) (((52 : Int32)).toNatClampNeg)).toInt ∧ (rd M (135 + 1) (((52 : Int32)).toNatClampNeg)).toInt ≤ 255 := h_M.ri 52 52 (by decide +kernel) (by omega) (by omega)
    refine Sf.m (sX7_reasonOf h_M ⟨by omega, by omega⟩ ⟨by omega, by omega⟩ ⟨by omega, by omega⟩) (fun M13 r12 p_11 => ?_)
    have h_M13 : OKm g M13 := p_11.1
    have p_11 : (0 : Int) ≤ (r12).toInt ∧ (r12).toInt ≤ (6 : Int) := p_11.2
    refine Sf.i (fun c_12 => ?_) (fun c_12 => ?_)
    · have c_12 := i_eq.mp c_12
      have n_13 : ((1 : Int32)).toInt = 1 := rfl
      exact (sX7_refused_b61 h_M13 ⟨by omega, by omega⟩ ⟨by omega, by omega⟩ ⟨by omega, by omega⟩ hih22 (by omega))
    · have c_12 := i_ne c_12
      exact (sX7_refused_b61 h_M13 ⟨by omega, by omega⟩ ⟨by omega, by omega⟩ ⟨by omega, by omega⟩ hih22 (by omega))
theorem sX7_refused_l22_n {g : Gm}    : ∀ (n : Nat) (x1 : Int32) (x2 : Int32) (x3 : Int32) (M : Mem) (h_M : OKm g M) (hx1 : (1 : Int) ≤ (x1).toInt ∧ (x1).toInt ≤ 6) (hx3 : (0 : Int) ≤ (x3).toInt ∧ (x3).toInt ≤ 16)    (hmu : 16 - (x3).toInt < n), Sf (mX7_refused_l22 135 n x1 x2 x3 M) (qMI g (-2147483648) (2147483647)) := by
  intro n
  induction n with
  | zero => intro x1 x2 x3 M h_M hx1 hx3 hmu; exfalso; omega
  | succ n IH => intro x1 x2 x3 M h_M hx1 hx3 hmu; exact sX7_refused_b22  h_M hx1 hx3    IH (by omega)
theorem sX7_refused_l22 {g : Gm}  {x1 : Int32} {x2 : Int32} {x3 : Int32} {M : Mem}  (h_M : OKm g M) (hx1 : (1 : Int) ≤ (x1).toInt ∧ (x1).toInt ≤ 6) (hx3 : (0 : Int) ≤ (x3).toInt ∧ (x3).toInt ≤ 16)    (hmu : 16 - (x3).toInt < 5000) : Sf (mX7_refused_l22 135 5000 x1 x2 x3 M) (qMI g (-2147483648) (2147483647)) :=
  sX7_refused_l22_n   5000 _ _ _ M h_M hx1 hx3    hmu
set_option maxHeartbeats 2000000 in
theorem sX7_refused {g : Gm} {x1 : Int32} {M : Mem} (h_M : OKm g M) : Sf (mX7_refused 135 x1 M) (qMI g (-2147483648) (2147483647)) := by
  unfold mX7_refused
  refine Sf.c (sX7_between (a := (x1).toInt) (b := 1) (c := 6) (Int32.toInt_toInt64 _) (by decide) (by decide)) (fun r2 p_1 => ?_)
  have p_1 : (0 ≤ (r2).toInt ∧ (r2).toInt ≤ 1) ∧ ((r2).toInt = 0 ∨ (1 ≤ (x1).toInt ∧ (x1).toInt ≤ 6)) := p_1
  refine Sf.m (sX7_good h_M ⟨by omega, by omega⟩) (fun M6 r5 p_2 => ?_)
  have h_M6 : OKm g M6 := p_2.1
  have p_2 : (0 ≤ (r5).toInt ∧ (r5).toInt ≤ 1) ∧ ((r5).toInt = 0 ∨ (¬ (r2).toInt = 0)) := p_2.2
  have n_3 : ((0 : Int32)).toInt = 0 := rfl
  refine Sf.i (fun c_4 => ?_) (fun c_4 => ?_)
  · have c_4 := i_eq.mp c_4
    have n0_c_4 : ((0 : Int32)).toInt = 0 := rfl
    exact Sf.ok ⟨h_M6, (i_rng _)⟩
  · have c_4 := i_ne c_4
    have n0_c_4 : ((0 : Int32)).toInt = 0 := rfl
    have n_5 : ((0 : Int32)).toInt = 0 := rfl
    exact (sX7_refused_l22 h_M6 ⟨by omega, by omega⟩ ⟨by omega, by omega⟩ (by omega))
set_option maxHeartbeats 2000000 in
theorem sX7_possible_b49 {g : Gm} {ih9 : Int32 → Int32 → Mem → Option (Mem × Int32)} {x2 : Int32} {y0 : Int32} {y1 : Int32} {M : Mem} {d9 : Nat} (h_M : OKm g M) (hx2 : (0 : Int) ≤ (x2).toInt ∧ (x2).toInt ≤ 15) (hy0 : (0 : Int) ≤ (y0).toInt ∧ (y0).toInt ≤ 65535) (hy1 : (0 : Int) ≤ (y1).toInt ∧ (y1).toInt ≤ 32768) (hih9 : ∀ (yx1 : Int32) (yx2 : Int32) (M : Mem), OKm g M → ((0 : Int) ≤ (yx1).toInt ∧ (yx1).toInt ≤ 65535) → ((0 : Int) ≤ (yx2).toInt ∧ (yx2).toInt ≤ 16) → 16 - (yx2).toInt < d9 → Sf (ih9 yx1 yx2 M) (qMI g (0) (65535))) (hmu9 : 16 - (x2).toInt ≤ d9) : Sf (mX7_possible_b49 135 ih9 x2 y0 y1 M) (qMI g (0) (65535)) := by
  unfold mX7_possible_b49
  try have a_1 : 0 ≤ ((y0 ||| y1)).toInt ∧ ((y0 ||| y1)).toInt < 65536 := i_or 16 (by decide) ⟨by omega, by omega⟩ ⟨by omega, by omega⟩
  refine Sf.b (fun x1_50 e_x1_50 => ?_)
  have d_x1_50 := congrArg Int32.toInt e_x1_50
  have n_2 : ((1 : Int32)).toInt = 1 := rfl
  try have a_3 : ((x2 + (1 : Int32))).toInt = (x2).toInt + ((1 : Int32)).toInt := i_add (by omega) (by omega)
  refine Sf.b (fun x2_51 e_x2_51 => ?_)
  have d_x2_51 := congrArg Int32.toInt e_x2_51
  exact (hih9 _ _ _ h_M ⟨by omega, by omega⟩ ⟨by omega, by omega⟩ (by omega))
set_option maxHeartbeats 2000000 in
theorem sX7_possible_b9 {g : Gm} {ih9 : Int32 → Int32 → Mem → Option (Mem × Int32)} {x1 : Int32} {x2 : Int32} {M : Mem} {d9 : Nat} (h_M : OKm g M) (hx1 : (0 : Int) ≤ (x1).toInt ∧ (x1).toInt ≤ 65535) (hx2 : (0 : Int) ≤ (x2).toInt ∧ (x2).toInt ≤ 16) (hih9 : ∀ (yx1 : Int32) (yx2 : Int32) (M : Mem), OKm g M → ((0 : Int) ≤ (yx1).toInt ∧ (yx1).toInt ≤ 65535) → ((0 : Int) ≤ (yx2).toInt ∧ (yx2).toInt ≤ 16) → 16 - (yx2).toInt < d9 → Sf (ih9 yx1 yx2 M) (qMI g (0) (65535))) (hmu9 : 16 - (x2).toInt ≤ d9) : Sf (mX7_possible_b9 135 ih9 x1 x2 M) (qMI g (0) (65535)) := by
  unfold mX7_possible_b9
  have n_1 : ((0 : Int32)).toInt = 0 := rfl
  refine Sf.k (ok_in (by omega) (by omega)) ?_
  have n_2 : ((2 : Int32)).toInt = 2 := rfl
  have b_3 : (0 : Int) ≤ (rd M (135 + 1) (((0 : Int32)).toNatClampNeg)).toInt ∧ (rd M (135 + 1) (((0 : Int32)).toNatClampNeg)).toInt ≤ 8 := h_M.ri 0 0 (by decide +kernel) (by omega) (by omega)
  try have a_4 : (((2 : Int32) * (rd M (135 + 1) (((0 : Int32)).toNatClampNeg)))).toInt = 2 * ((rd M (135 + 1) (((0 : Int32)).toNatClampNeg))).toInt := i_mulc (by omega) (by omega) (by omega)
  refine Sf.i (fun c_5 => ?_) (fun c_5 => ?_)
  · have c_5 := i_le.mp c_5
    have z_6 : (0 : Int) ≤ (x1).toInt ∧ (x1).toInt ≤ 65535 := ⟨by omega, by omega⟩
    exact Sf.ok ⟨h_M, z_6⟩
  · have c_5 := i_nle c_5
    have n_7 : ((52 : Int32)).toInt = 52 := rfl
    refine Sf.k (ok_in (by omega) (by omega)) ?_
    try have a_8 : ((x2 / (2 : Int32))).toInt = (x2).toInt / 2 := (i_div (by omega) (by omega)).trans (by rw [show ((2 : Int32)).toInt = 2 from rfl])
    try have a_9 : (((x2 / (2 : Int32)) * (2 : Int32))).toInt = ((x2 / (2 : Int32))).toInt * 2 := i_mulr (by omega) (by omega) (by omega)
    try have a_10 : ((x2 - ((x2 / (2 : Int32)) * (2 : Int32)))).toInt = (x2).toInt - (((x2 / (2 : Int32)) * (2 : Int32))).toInt := i_sub (by omega) (by omega)
    have b_11 : (0 : Int) ≤ (rd M (135 + 1) (((52 : Int32)).toNatClampNeg)).toInt ∧ (rd M (135 + 1) (((52 : Int32)).toNatClampNeg)).toInt ≤ 255 := h_M.ri 52 52 (by decide +kernel) (by omega) (by omega)
    refine Sf.m (sX7_reasonOf h_M ⟨by omega, by omega⟩ ⟨by omega, by omega⟩ ⟨by omega, by omega⟩) (fun M8 r7 p_12 => ?_)
    have h_M8 : OKm g M8 := p_12.1
    have p_12 : (0 : Int) ≤ (r7).toInt ∧ (r7).toInt ≤ (6 : Int) := p_12.2
    have n_13 : ((0 : Int32)).toInt = 0 := rfl
    refine Sf.i (fun c_14 => ?_) (fun c_14 => ?_)
    · have c_14 := i_eq.mp c_14
      try have a_15 : 0 < (((1 : Int32) <<< (x2 &&& 31))).toInt ∧ (((1 : Int32) <<< (x2 &&& 31))).toInt ≤ 32768 := i_shl 15 (by decide) ⟨by omega, by omega⟩
      exact (sX7_possible_b49 h_M8 ⟨by omega, by omega⟩ ⟨by omega, by omega⟩ ⟨by omega, by omega⟩ hih9 (by omega))
    · have c_14 := i_ne c_14
      exact (sX7_possible_b49 h_M8 ⟨by omega, by omega⟩ ⟨by omega, by omega⟩ ⟨by omega, by omega⟩ hih9 (by omega))
theorem sX7_possible_l9_n {g : Gm}    : ∀ (n : Nat) (x1 : Int32) (x2 : Int32) (M : Mem) (h_M : OKm g M) (hx1 : (0 : Int) ≤ (x1).toInt ∧ (x1).toInt ≤ 65535) (hx2 : (0 : Int) ≤ (x2).toInt ∧ (x2).toInt ≤ 16)    (hmu : 16 - (x2).toInt < n), Sf (mX7_possible_l9 135 n x1 x2 M) (qMI g (0) (65535)) := by
  intro n
  induction n with
  | zero => intro x1 x2 M h_M hx1 hx2 hmu; exfalso; omega
  | succ n IH => intro x1 x2 M h_M hx1 hx2 hmu; exact sX7_possible_b9  h_M hx1 hx2    IH (by omega)
theorem sX7_possible_l9 {g : Gm}  {x1 : Int32} {x2 : Int32} {M : Mem}  (h_M : OKm g M) (hx1 : (0 : Int) ≤ (x1).toInt ∧ (x1).toInt ≤ 65535) (hx2 : (0 : Int) ≤ (x2).toInt ∧ (x2).toInt ≤ 16)    (hmu : 16 - (x2).toInt < 5000) : Sf (mX7_possible_l9 135 5000 x1 x2 M) (qMI g (0) (65535)) :=
  sX7_possible_l9_n   5000 _ _ M h_M hx1 hx2    hmu
set_option maxHeartbeats 2000000 in
theorem sX7_possible {g : Gm} {M : Mem} (h_M : OKm g M) : Sf (mX7_possible 135 M) (qMI g (0) (65535)) := by
  unfold mX7_possible
  refine Sf.b (fun M1 e_M1 => ?_)
  have h_M1 : OKm g M1 := by rw [e_M1]; exact h_M.put rfl (i_rng _)
  have n_1 : ((0 : Int32)).toInt = 0 := rfl
  exact (sX7_possible_l9 h_M1 ⟨by omega, by omega⟩ ⟨by omega, by omega⟩ (by omega))
set_option maxHeartbeats 2000000 in
theorem sX7_stuck_b71 {g : Gm} {ih9 : Int32 → Int32 → Mem → Option (Mem × Int32)} {x2 : Int32} {y0 : Int32} {y1 : Int32} {M : Mem} {d9 : Nat} (h_M : OKm g M) (hx2 : (0 : Int) ≤ (x2).toInt ∧ (x2).toInt ≤ 7) (hy1 : (0 : Int) ≤ (y1).toInt ∧ (y1).toInt ≤ 1) (hih9 : ∀ (yx1 : Int32) (yx2 : Int32) (M : Mem), OKm g M → ((0 : Int) ≤ (yx2).toInt ∧ (yx2).toInt ≤ 8) → 8 - (yx2).toInt < d9 → Sf (ih9 yx1 yx2 M) (qMI g (-2147483648) (2147483647))) (hmu9 : 8 - (x2).toInt ≤ d9) : Sf (mX7_stuck_b71 135 ih9 x2 y0 y1 M) (qMI g (-2147483648) (2147483647)) := by
  unfold mX7_stuck_b71
  refine Sf.b (fun x1_72 e_x1_72 => ?_)
  have d_x1_72 := congrArg Int32.toInt e_x1_72
  have n_1 : ((1 : Int32)).toInt = 1 := rfl
  try have a_2 : ((x2 + (1 : Int32))).toInt = (x2).toInt + ((1 : Int32)).toInt := i_add (by omega) (by omega)
  refine Sf.b (fun x2_73 e_x2_73 => ?_)
  have d_x2_73 := congrArg Int32.toInt e_x2_73
  exact (hih9 _ _ _ h_M ⟨by omega, by omega⟩ (by omega))
set_option maxHeartbeats 2000000 in
theorem sX7_stuck_b70 {g : Gm} {ih9 : Int32 → Int32 → Mem → Option (Mem × Int32)} {x2 : Int32} {y0 : Int32} {M : Mem} {d9 : Nat} (h_M : OKm g M) (hx2 : (0 : Int) ≤ (x2).toInt ∧ (x2).toInt ≤ 7) (hih9 : ∀ (yx1 : Int32) (yx2 : Int32) (M : Mem), OKm g M → ((0 : Int) ≤ (yx2).toInt ∧ (yx2).toInt ≤ 8) → 8 - (yx2).toInt < d9 → Sf (ih9 yx1 yx2 M) (qMI g (-2147483648) (2147483647))) (hmu9 : 8 - (x2).toInt ≤ d9) : Sf (mX7_stuck_b70 135 ih9 x2 y0 M) (qMI g (-2147483648) (2147483647)) := by
  unfold mX7_stuck_b70
  have n_1 : ((0 : Int32)).toInt = 0 := rfl
  exact (sX7_stuck_b71 h_M ⟨by omega, by omega⟩ ⟨by omega, by omega⟩ hih9 (by omega))
set_option maxHeartbeats 2000000 in
theorem sX7_stuck_b9 {g : Gm} {ih9 : Int32 → Int32 → Mem → Option (Mem × Int32)} {x1 : Int32} {x2 : Int32} {M : Mem} {d9 : Nat} (h_M : OKm g M) (hx2 : (0 : Int) ≤ (x2).toInt ∧ (x2).toInt ≤ 8) (hih9 : ∀ (yx1 : Int32) (yx2 : Int32) (M : Mem), OKm g M → ((0 : Int) ≤ (yx2).toInt ∧ (yx2).toInt ≤ 8) → 8 - (yx2).toInt < d9 → Sf (ih9 yx1 yx2 M) (qMI g (-2147483648) (2147483647))) (hmu9 : 8 - (x2).toInt ≤ d9) : Sf (mX7_stuck_b9 135 ih9 x1 x2 M) (qMI g (-2147483648) (2147483647)) := by
  unfold mX7_stuck_b9
  have n_1 : ((0 : Int32)).toInt = 0 := rfl
  refine Sf.k (ok_in (by omega) (by omega)) ?_
  have b_2 : (0 : Int) ≤ (rd M (135 + 1) (((0 : Int32)).toNatClampNeg)).toInt ∧ (rd M (135 + 1) (((0 : Int32)).toNatClampNeg)).toInt ≤ 8 := h_M.ri 0 0 (by decide +kernel) (by omega) (by omega)
  refine Sf.i (fun c_3 => ?_) (fun c_3 => ?_)
  · have c_3 := i_le.mp c_3
    exact Sf.ok ⟨h_M, (i_rng _)⟩
  · have c_3 := i_nle c_3
    have n_4 : ((52 : Int32)).toInt = 52 := rfl
    refine Sf.k (ok_in (by omega) (by omega)) ?_
    have b_5 : (0 : Int) ≤ (rd M (135 + 1) (((52 : Int32)).toNatClampNeg)).toInt ∧ (rd M (135 + 1) (((52 : Int32)).toNatClampNeg)).toInt ≤ 255 := h_M.ri 52 52 (by decide +kernel) (by omega) (by omega)
    refine Sf.c (sX7_has h_M ⟨by omega, by omega⟩ ⟨by omega, by omega⟩) (fun r7 p_6 => ?_)
    obtain ⟨p_6a, p_6b⟩ := p_6
    have n_7 : ((0 : Int32)).toInt = 0 := rfl
    refine Sf.i (fun c_8 => ?_) (fun c_8 => ?_)
    · have c_8 := i_eq.mp c_8
      refine Sf.k (ok_in (by omega) (by omega)) ?_
      refine Sf.m (sX7_reasonOf h_M ⟨by omega, by omega⟩ ⟨by omega, by omega⟩ ⟨by omega, by omega⟩) (fun M15 r14 p_9 => ?_)
      have h_M15 : OKm g M15 := p_9.1
      have p_9 : (0 : Int) ≤ (r14).toInt ∧ (r14).toInt ≤ (6 : Int) := p_9.2
      refine Sf.i (fun c_10 => ?_) (fun c_10 => ?_)
      · have c_10 := i_eq.mp c_10
        exact (sX7_stuck_b70 h_M15 ⟨by omega, by omega⟩ hih9 (by omega))
      · have c_10 := i_ne c_10
        refine Sf.k (ok_in (by omega) (by omega)) ?_
        have n_11 : ((1 : Int32)).toInt = 1 := rfl
        have b_12 : (0 : Int) ≤ (rd M15 (135 + 1) (((52 : Int32)).toNatClampNeg)).toInt ∧ (rd M15 (135 + 1) (((52 : Int32)).toNatClampNeg)).toInt ≤ 255 := h_M15.ri 52 52 (by decide +kernel) (by omega) (by omega)
        refine Sf.m (sX7_reasonOf h_M15 ⟨by omega, by omega⟩ ⟨by omega, by omega⟩ ⟨by omega, by omega⟩) (fun M20 r19 p_13 => ?_)
        have h_M20 : OKm g M20 := p_13.1
        have p_13 : (0 : Int) ≤ (r19).toInt ∧ (r19).toInt ≤ (6 : Int) := p_13.2
        refine Sf.i (fun c_14 => ?_) (fun c_14 => ?_)
        · have c_14 := i_eq.mp c_14
          exact (sX7_stuck_b70 h_M20 ⟨by omega, by omega⟩ hih9 (by omega))
        · have c_14 := i_ne c_14
          exact (sX7_stuck_b71 h_M20 ⟨by omega, by omega⟩ ⟨by omega, by omega⟩ hih9 (by omega))
    · have c_8 := i_ne c_8
      exact (sX7_stuck_b70 h_M ⟨by omega, by omega⟩ hih9 (by omega))
theorem sX7_stuck_l9_n {g : Gm}    : ∀ (n : Nat) (x1 : Int32) (x2 : Int32) (M : Mem) (h_M : OKm g M) (hx2 : (0 : Int) ≤ (x2).toInt ∧ (x2).toInt ≤ 8)    (hmu : 8 - (x2).toInt < n), Sf (mX7_stuck_l9 135 n x1 x2 M) (qMI g (-2147483648) (2147483647)) := by
  intro n
  induction n with
  | zero => intro x1 x2 M h_M hx2 hmu; exfalso; omega
  | succ n IH => intro x1 x2 M h_M hx2 hmu; exact sX7_stuck_b9  h_M hx2    IH (by omega)
theorem sX7_stuck_l9 {g : Gm}  {x1 : Int32} {x2 : Int32} {M : Mem}  (h_M : OKm g M) (hx2 : (0 : Int) ≤ (x2).toInt ∧ (x2).toInt ≤ 8)    (hmu : 8 - (x2).toInt < 5000) : Sf (mX7_stuck_l9 135 5000 x1 x2 M) (qMI g (-2147483648) (2147483647)) :=
  sX7_stuck_l9_n   5000 _ _ M h_M hx2    hmu
set_option maxHeartbeats 2000000 in
theorem sX7_stuck {g : Gm} {M : Mem} (h_M : OKm g M) : Sf (mX7_stuck 135 M) (qMI g (-2147483648) (2147483647)) := by
  unfold mX7_stuck
  refine Sf.b (fun M1 e_M1 => ?_)
  have h_M1 : OKm g M1 := by rw [e_M1]; exact h_M.put rfl (i_rng _)
  have n_1 : ((0 : Int32)).toInt = 0 := rfl
  exact (sX7_stuck_l9 h_M1 ⟨by omega, by omega⟩ (by omega))
set_option maxHeartbeats 2000000 in
theorem sX7_costBehind_b55 {g : Gm} {M : Mem} {x3 : Int32} {x6 : Int32} {x7 : Int32} (h_M : OKm g M) (hx7 : (0 : Int) ≤ (x7).toInt ∧ (x7).toInt ≤ 198) : Sf (mX7_costBehind_b55 135 M x3 x6 x7) (pI (0) (297)) := by
  unfold mX7_costBehind_b55
  refine Sf.i (fun c_1 => ?_) (fun c_1 => ?_)
  · have c_1 := i_eq.mp c_1
    have z_2 : (0 : Int) ≤ (x7).toInt ∧ (x7).toInt ≤ 297 := ⟨by omega, by omega⟩
    exact Sf.ok z_2
  · have c_1 := i_ne c_1
    have n_3 : ((51 : Int32)).toInt = 51 := rfl
    refine Sf.k (ok_in (by omega) (by omega)) ?_
    have b_4 : (0 : Int) ≤ (rd M (135 + 1) (((51 : Int32)).toNatClampNeg)).toInt ∧ (rd M (135 + 1) (((51 : Int32)).toNatClampNeg)).toInt ≤ 99 := h_M.ri 51 51 (by decide +kernel) (by omega) (by omega)
    try have a_5 : ((x7 + (rd M (135 + 1) (((51 : Int32)).toNatClampNeg)))).toInt = (x7).toInt + ((rd M (135 + 1) (((51 : Int32)).toNatClampNeg))).toInt := i_add (by omega) (by omega)
    refine Sf.b (fun x7_71 e_x7_71 => ?_)
    have d_x7_71 := congrArg Int32.toInt e_x7_71
    have z_6 : (0 : Int) ≤ (x7_71).toInt ∧ (x7_71).toInt ≤ 297 := ⟨by omega, by omega⟩
    exact Sf.ok z_6
set_option maxHeartbeats 2000000 in
theorem sX7_costBehind_b37 {g : Gm} {M : Mem} {x2 : Int32} {x3 : Int32} {x5 : Int32} {x6 : Int32} {x7 : Int32} (h_M : OKm g M) (hx2 : (0 : Int) ≤ (x2).toInt ∧ (x2).toInt ≤ 1) (hx5 : (0 : Int) ≤ (x5).toInt ∧ (x5).toInt ≤ 1) (hx7 : (0 : Int) ≤ (x7).toInt ∧ (x7).toInt ≤ 99) : Sf (mX7_costBehind_b37 135 M x2 x3 x5 x6 x7) (pI (0) (297)) := by
  unfold mX7_costBehind_b37
  refine Sf.i (fun c_1 => ?_) (fun c_1 => ?_)
  · have c_1 := i_eq.mp c_1
    exact (sX7_costBehind_b55 h_M ⟨by omega, by omega⟩)
  · have c_1 := i_ne c_1
    have n_2 : ((50 : Int32)).toInt = 50 := rfl
    refine Sf.k (ok_in (by omega) (by omega)) ?_
    have b_3 : (0 : Int) ≤ (rd M (135 + 1) (((50 : Int32)).toNatClampNeg)).toInt ∧ (rd M (135 + 1) (((50 : Int32)).toNatClampNeg)).toInt ≤ 99 := h_M.ri 50 50 (by decide +kernel) (by omega) (by omega)
    try have a_4 : ((x7 + (rd M (135 + 1) (((50 : Int32)).toNatClampNeg)))).toInt = (x7).toInt + ((rd M (135 + 1) (((50 : Int32)).toNatClampNeg))).toInt := i_add (by omega) (by omega)
    refine Sf.b (fun x7_53 e_x7_53 => ?_)
    have d_x7_53 := congrArg Int32.toInt e_x7_53
    exact (sX7_costBehind_b55 h_M ⟨by omega, by omega⟩)
set_option maxHeartbeats 2000000 in
theorem sX7_costBehind {g : Gm} {x1 : Int32} {x2 : Int32} {x3 : Int32} {x4 : Int32} {x5 : Int32} {x6 : Int32} {M : Mem} (h_M : OKm g M) (hx1 : (0 : Int) ≤ (x1).toInt ∧ (x1).toInt ≤ 7) (hx2 : (0 : Int) ≤ (x2).toInt ∧ (x2).toInt ≤ 1) (hx4 : (0 : Int) ≤ (x4).toInt ∧ (x4).toInt ≤ 7) (hx5 : (0 : Int) ≤ (x5).toInt ∧ (x5).toInt ≤ 1) : Sf (mX7_costBehind 135 x1 x2 x3 x4 x5 x6 M) (pI (0) (297)) := by
  unfold mX7_costBehind
  have n_1 : ((11 : Int32)).toInt = 11 := rfl
  try have a_2 : (((11 : Int32) + x1)).toInt = ((11 : Int32)).toInt + (x1).toInt := i_add (by omega) (by omega)
  refine Sf.k (ok_in (by omega) (by omega)) ?_
  try have a_3 : (((11 : Int32) + x4)).toInt = ((11 : Int32)).toInt + (x4).toInt := i_add (by omega) (by omega)
  refine Sf.k (ok_in (by omega) (by omega)) ?_
  have b_4 : (0 : Int) ≤ (rd M (135 + 1) ((((11 : Int32) + x1)).toNatClampNeg)).toInt ∧ (rd M (135 + 1) ((((11 : Int32) + x1)).toNatClampNeg)).toInt ≤ 1 := h_M.ri 11 18 (by decide +kernel) (by omega) (by omega)
  have b_5 : (0 : Int) ≤ (rd M (135 + 1) ((((11 : Int32) + x4)).toNatClampNeg)).toInt ∧ (rd M (135 + 1) ((((11 : Int32) + x4)).toNatClampNeg)).toInt ≤ 1 := h_M.ri 11 18 (by decide +kernel) (by omega) (by omega)
  refine Sf.i (fun c_6 => ?_) (fun c_6 => ?_)
  · have c_6 := i_eq.mp c_6
    have n_7 : ((0 : Int32)).toInt = 0 := rfl
    exact (sX7_costBehind_b37 h_M ⟨by omega, by omega⟩ ⟨by omega, by omega⟩ ⟨by omega, by omega⟩)
  · have c_6 := i_ne c_6
    have n_8 : ((49 : Int32)).toInt = 49 := rfl
    refine Sf.k (ok_in (by omega) (by omega)) ?_
    have n_9 : ((0 : Int32)).toInt = 0 := rfl
    have b_10 : (0 : Int) ≤ (rd M (135 + 1) (((49 : Int32)).toNatClampNeg)).toInt ∧ (rd M (135 + 1) (((49 : Int32)).toNatClampNeg)).toInt ≤ 99 := h_M.ri 49 49 (by decide +kernel) (by omega) (by omega)
    try have a_11 : (((0 : Int32) + (rd M (135 + 1) (((49 : Int32)).toNatClampNeg)))).toInt = ((0 : Int32)).toInt + ((rd M (135 + 1) (((49 : Int32)).toNatClampNeg))).toInt := i_add (by omega) (by omega)
    refine Sf.b (fun x7_35 e_x7_35 => ?_)
    have d_x7_35 := congrArg Int32.toInt e_x7_35
    exact (sX7_costBehind_b37 h_M ⟨by omega, by omega⟩ ⟨by omega, by omega⟩ ⟨by omega, by omega⟩)
set_option maxHeartbeats 2000000 in
theorem sX7_costNow {g : Gm} {x1 : Int32} {x2 : Int32} {M : Mem} (h_M : OKm g M) (hx1 : (0 : Int) ≤ (x1).toInt ∧ (x1).toInt ≤ 7) (hx2 : (0 : Int) ≤ (x2).toInt ∧ (x2).toInt ≤ 1) : Sf (mX7_costNow 135 x1 x2 M) (qMI g (0) (297)) := by
  unfold mX7_costNow
  have n_1 : ((53 : Int32)).toInt = 53 := rfl
  refine Sf.k (ok_in (by omega) (by omega)) ?_
  have b_2 : (0 : Int) ≤ (rd M (135 + 1) (((53 : Int32)).toNatClampNeg)).toInt ∧ (rd M (135 + 1) (((53 : Int32)).toNatClampNeg)).toInt ≤ 8 := h_M.ri 53 53 (by decide +kernel) (by omega) (by omega)
  have n_3 : ((0 : Int32)).toInt = 0 := rfl
  refine Sf.i (fun c_4 => ?_) (fun c_4 => ?_)
  · have c_4 := i_eq.mp c_4
    have n_5 : ((0 : Int32)).toInt = 0 := rfl
    have z_6 : (0 : Int) ≤ ((0 : Int32)).toInt ∧ ((0 : Int32)).toInt ≤ 297 := ⟨by omega, by omega⟩
    exact Sf.ok ⟨h_M, z_6⟩
  · have c_4 := i_ne c_4
    refine Sf.k (ok_in (by omega) (by omega)) ?_
    have n_7 : ((1 : Int32)).toInt = 1 := rfl
    try have a_8 : (((rd M (135 + 1) (((53 : Int32)).toNatClampNeg)) - (1 : Int32))).toInt = ((rd M (135 + 1) (((53 : Int32)).toNatClampNeg))).toInt - ((1 : Int32)).toInt := i_sub (by omega) (by omega)
    refine Sf.b (fun x3_21 e_x3_21 => ?_)
    have d_x3_21 := congrArg Int32.toInt e_x3_21
    have n_10 : ((0 : Int32)).toInt = 0 := rfl
    refine Sf.c (sX7_stepOf0 h_M ⟨by omega, by omega⟩) (fun r6 p_9 => ?_)
    obtain ⟨p_9a, p_9b⟩ := p_9
    refine Sf.c (sX7_stepOf1 h_M ⟨by omega, by omega⟩) (fun r9 p_11 => ?_)
    obtain ⟨p_11a, p_11b⟩ := p_11
    have n_13 : ((2 : Int32)).toInt = 2 := rfl
    refine Sf.c (sX7_stepOf2 ⟨by omega, by omega⟩) (fun r12 p_12 => ?_)
    have n_14 : ((52 : Int32)).toInt = 52 := rfl
    refine Sf.k (ok_in (by omega) (by omega)) ?_
    have b_15 : (0 : Int) ≤ (rd M (135 + 1) (((52 : Int32)).toNatClampNeg)).toInt ∧ (rd M (135 + 1) (((52 : Int32)).toNatClampNeg)).toInt ≤ 255 := h_M.ri 52 52 (by decide +kernel) (by omega) (by omega)
    refine Sf.m (sX7_gaugeOf h_M ⟨by omega, by omega⟩ ⟨by omega, by omega⟩ ⟨by omega, by omega⟩) (fun M17 r16 p_16 => ?_)
    have h_M17 : OKm g M17 := p_16.1
    have p_16 : (0 : Int) ≤ (r16).toInt ∧ (r16).toInt ≤ (2147483647 : Int) := p_16.2
    refine Sf.c (sX7_costBehind h_M17 ⟨by omega, by omega⟩ ⟨by omega, by omega⟩ ⟨by omega, by omega⟩ ⟨by omega, by omega⟩) (fun r19 p_17 => ?_)
    obtain ⟨p_17a, p_17b⟩ := p_17
    have z_18 : (0 : Int) ≤ (r19).toInt ∧ (r19).toInt ≤ 297 := ⟨by omega, by omega⟩
    exact Sf.ok ⟨h_M17, z_18⟩
set_option maxHeartbeats 2000000 in
theorem sX7_costOf {g : Gm} {x1 : Int32} {x2 : Int32} {M : Mem} (h_M : OKm g M) : Sf (mX7_costOf 135 x1 x2 M) (qMI g (0) (297)) := by
  unfold mX7_costOf
  refine Sf.c (sX7_isBend h_M) (fun r2 p_1 => ?_)
  have p_1 : (0 ≤ (r2).toInt ∧ (r2).toInt ≤ 1) ∧ ((r2).toInt = 0 ∨ (0 ≤ (x1).toInt ∧ (x1).toInt ≤ (rd M (135 + 1) ((0 : Int32)).toNatClampNeg).toInt - 1 ∧ (x1).toInt ≤ 7)) := p_1
  refine Sf.c sX7_isSide (fun r5 p_2 => ?_)
  have p_2 : (0 ≤ (r5).toInt ∧ (r5).toInt ≤ 1) ∧ ((r5).toInt = 0 ∨ (0 ≤ (x2).toInt ∧ (x2).toInt ≤ 1)) := p_2
  refine Sf.m (sX7_good_ h_M) (fun M9 r8 p_3 => ?_)
  have h_M9 : OKm g M9 := p_3.1
  have p_3 : (0 ≤ (r8).toInt ∧ (r8).toInt ≤ 1) ∧ ((r8).toInt = 0 ∨ (¬ (r2).toInt = 0 ∧ ¬ (r5).toInt = 0)) := p_3.2
  have n_4 : ((0 : Int32)).toInt = 0 := rfl
  refine Sf.i (fun c_5 => ?_) (fun c_5 => ?_)
  · have c_5 := i_eq.mp c_5
    have n0_c_5 : ((0 : Int32)).toInt = 0 := rfl
    have n_6 : ((0 : Int32)).toInt = 0 := rfl
    have z_7 : (0 : Int) ≤ ((0 : Int32)).toInt ∧ ((0 : Int32)).toInt ≤ 297 := ⟨by omega, by omega⟩
    exact Sf.ok ⟨h_M9, z_7⟩
  · have c_5 := i_ne c_5
    have n0_c_5 : ((0 : Int32)).toInt = 0 := rfl
    refine Sf.m (sX7_costNow h_M9 ⟨by omega, by omega⟩ ⟨by omega, by omega⟩) (fun M13 r12 p_8 => ?_)
    have h_M13 : OKm g M13 := p_8.1
    have p_8 : (0 : Int) ≤ (r12).toInt ∧ (r12).toInt ≤ (297 : Int) := p_8.2
    have z_9 : (0 : Int) ≤ (r12).toInt ∧ (r12).toInt ≤ 297 := ⟨by omega, by omega⟩
    exact Sf.ok ⟨h_M13, z_9⟩
set_option maxHeartbeats 2000000 in
theorem sX7_full {g : Gm} {M : Mem} (h_M : OKm g M) : Sf (mX7_full 135 M) (pI (0) (255)) := by
  unfold mX7_full
  have n_1 : ((0 : Int32)).toInt = 0 := rfl
  refine Sf.k (ok_in (by omega) (by omega)) ?_
  have b_2 : (0 : Int) ≤ (rd M (135 + 1) (((0 : Int32)).toNatClampNeg)).toInt ∧ (rd M (135 + 1) (((0 : Int32)).toNatClampNeg)).toInt ≤ 8 := h_M.ri 0 0 (by decide +kernel) (by omega) (by omega)
  try have a_3 : 0 < (((1 : Int32) <<< ((rd M (135 + 1) (((0 : Int32)).toNatClampNeg)) &&& 31))).toInt ∧ (((1 : Int32) <<< ((rd M (135 + 1) (((0 : Int32)).toNatClampNeg)) &&& 31))).toInt ≤ 256 := i_shl 8 (by decide) ⟨by omega, by omega⟩
  have n_4 : ((1 : Int32)).toInt = 1 := rfl
  try have a_5 : ((((1 : Int32) <<< ((rd M (135 + 1) (((0 : Int32)).toNatClampNeg)) &&& 31)) - (1 : Int32))).toInt = (((1 : Int32) <<< ((rd M (135 + 1) (((0 : Int32)).toNatClampNeg)) &&& 31))).toInt - ((1 : Int32)).toInt := i_sub (by omega) (by omega)
  have z_6 : (0 : Int) ≤ ((((1 : Int32) <<< ((rd M (135 + 1) (((0 : Int32)).toNatClampNeg)) &&& 31)) - (1 : Int32))).toInt ∧ ((((1 : Int32) <<< ((rd M (135 + 1) (((0 : Int32)).toNatClampNeg)) &&& 31)) - (1 : Int32))).toInt ≤ 255 := ⟨by omega, by omega⟩
  exact Sf.ok z_6
set_option maxHeartbeats 2000000 in
theorem sX7_gaugeLast {g : Gm} {x1 : Int32} {x2 : Int32} {M : Mem} (h_M : OKm g M) (hx1 : (0 : Int) ≤ (x1).toInt ∧ (x1).toInt ≤ 255) (hx2 : (0 : Int) ≤ (x2).toInt ∧ (x2).toInt ≤ 15) : Sf (mX7_gaugeLast 135 x1 x2 M) (pI (-2147483648) (2147483647)) := by
  unfold mX7_gaugeLast
  have n_1 : ((16 : Int32)).toInt = 16 := rfl
  have n_2 : ((2 : Int32)).toInt = 2 := rfl
  try have a_3 : ((x2 / (2 : Int32))).toInt = (x2).toInt / 2 := (i_div (by omega) (by omega)).trans (by rw [show ((2 : Int32)).toInt = 2 from rfl])
  try have a_4 : 0 < (((1 : Int32) <<< ((x2 / (2 : Int32)) &&& 31))).toInt ∧ (((1 : Int32) <<< ((x2 / (2 : Int32)) &&& 31))).toInt ≤ 128 := i_shl 7 (by decide) ⟨by omega, by omega⟩
  have n_5 : (((-1) : Int32)).toInt = -1 := rfl
  try have a_6 := i_and (a := x1) (b := (((1 : Int32) <<< ((x2 / (2 : Int32)) &&& 31)) ^^^ ((-1) : Int32))) (by omega)
  try have a_7 : (((16 : Int32) * (x1 &&& (((1 : Int32) <<< ((x2 / (2 : Int32)) &&& 31)) ^^^ ((-1) : Int32))))).toInt = 16 * ((x1 &&& (((1 : Int32) <<< ((x2 / (2 : Int32)) &&& 31)) ^^^ ((-1) : Int32)))).toInt := i_mulc (by omega) (by omega) (by omega)
  try have a_8 : ((((16 : Int32) * (x1 &&& (((1 : Int32) <<< ((x2 / (2 : Int32)) &&& 31)) ^^^ ((-1) : Int32)))) + x2)).toInt = (((16 : Int32) * (x1 &&& (((1 : Int32) <<< ((x2 / (2 : Int32)) &&& 31)) ^^^ ((-1) : Int32))))).toInt + (x2).toInt := i_add (by omega) (by omega)
  refine Sf.k (ok_in (by omega) (by omega)) ?_
  exact Sf.ok (i_rng _)
set_option maxHeartbeats 2000000 in
theorem sX7_lastNow {g : Gm} {M : Mem} (h_M : OKm g M) : Sf (mX7_lastNow 135 M) (pI (0) (16)) := by
  unfold mX7_lastNow
  have n_1 : ((53 : Int32)).toInt = 53 := rfl
  refine Sf.k (ok_in (by omega) (by omega)) ?_
  have b_2 : (0 : Int) ≤ (rd M (135 + 1) (((53 : Int32)).toNatClampNeg)).toInt ∧ (rd M (135 + 1) (((53 : Int32)).toNatClampNeg)).toInt ≤ 8 := h_M.ri 53 53 (by decide +kernel) (by omega) (by omega)
  have n_3 : ((0 : Int32)).toInt = 0 := rfl
  refine Sf.i (fun c_4 => ?_) (fun c_4 => ?_)
  · have c_4 := i_eq.mp c_4
    have n_5 : ((16 : Int32)).toInt = 16 := rfl
    have z_6 : (0 : Int) ≤ ((16 : Int32)).toInt ∧ ((16 : Int32)).toInt ≤ 16 := ⟨by omega, by omega⟩
    exact Sf.ok z_6
  · have c_4 := i_ne c_4
    refine Sf.k (ok_in (by omega) (by omega)) ?_
    have n_8 : ((1 : Int32)).toInt = 1 := rfl
    try have a_9 : (((rd M (135 + 1) (((53 : Int32)).toNatClampNeg)) - (1 : Int32))).toInt = ((rd M (135 + 1) (((53 : Int32)).toNatClampNeg))).toInt - ((1 : Int32)).toInt := i_sub (by omega) (by omega)
    have n_10 : ((0 : Int32)).toInt = 0 := rfl
    refine Sf.c (sX7_stepOf0 h_M ⟨by omega, by omega⟩) (fun r5 p_7 => ?_)
    obtain ⟨p_7a, p_7b⟩ := p_7
    refine Sf.k (ok_in (by omega) (by omega)) ?_
    refine Sf.c (sX7_stepOf1 h_M ⟨by omega, by omega⟩) (fun r9 p_11 => ?_)
    obtain ⟨p_11a, p_11b⟩ := p_11
    have n_12 : ((2 : Int32)).toInt = 2 := rfl
    try have a_13 : (((2 : Int32) * r5)).toInt = 2 * (r5).toInt := i_mulc (by omega) (by omega) (by omega)
    try have a_14 : ((((2 : Int32) * r5) + r9)).toInt = (((2 : Int32) * r5)).toInt + (r9).toInt := i_add (by omega) (by omega)
    have z_15 : (0 : Int) ≤ ((((2 : Int32) * r5) + r9)).toInt ∧ ((((2 : Int32) * r5) + r9)).toInt ≤ 16 := ⟨by omega, by omega⟩
    exact Sf.ok z_15
end
