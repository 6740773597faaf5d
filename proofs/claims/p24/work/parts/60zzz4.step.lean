/-! steps, sums, likeness from the other end, the longest leg: alike -/
section SL
variable {n m a b s c l e : Nat} {M M' N N' N0 : Mem} {x x1 x2 v : Int32}
theorem an_step (h : SS M N) : R2 (mX6_step 0 x1 x2 M) (mX7_step 135 x1 x2 N) (XR nmb2) := by
  have n0 : ((0 : Int32)).toInt = 0 := rfl
  have n1 : ((1 : Int32)).toInt = 1 := rfl
  have n3 : ((3 : Int32)).toInt = 3 := rfl
  have n8 : ((8 : Int32)).toInt = 8 := rfl
  have hsb := h.1.sb
  have hns : rd M 5 14 = rd N 136 53 := h.1.ns
  have sb : 0 ≤ (rd N 136 53).toInt ∧ (rd N 136 53).toInt ≤ 8 := hsb
  have e1 : (rd N (135 + 1) ((53 : Int32)).toNatClampNeg - 1).toInt = (rd N 136 53).toInt - 1 := by
    show (rd N 136 53 - 1).toInt = _
    rw [i_sub (by omega) (by omega)]; omega
  have hlen : (rd N 136 0).toInt = (nb 5 M : Int) := h.1.pb.bn
  have hq : SQ (nb 5 M) (row 136 N) := h.2.2.1.2.1 _ hlen
  refine R2.mono (Q := fun p q => XR nmb2 p q ∧ SS p.1 q.1) ?_ (fun p q z => z.1)
  unfold mX6_step mX7_step mX6_step_b21
  refine R2.kr (fun _ => R2.cr (pc_btw (Int32.toInt_toInt64 _) (b := 0) (by decide) (Int32.toInt_toInt64 _)) (fun r3 p3 => R2.cr (pc_btw (Int32.toInt_toInt64 _) (b := 0) (by decide) (c := 3) (by decide)) (fun r6 p6 => ?_)))
  rw [e1] at p3
  have bad : ¬ (0 ≤ x1.toInt ∧ x1.toInt < (rd N 136 53).toInt) → r3 = 0 := fun q => by
    rcases p3 with ⟨_, z⟩ | ⟨z, _⟩
    · exact absurd ⟨z.1, by omega⟩ q
    · exact z
  refine R2.il (fun c => R2.bad2 (Or.inl ⟨bad ?_, rfl⟩) h) (fun c => R2.il (fun c2 => R2.bad2 (Or.inl ⟨bad ?_, rfl⟩) h) (fun c2 => R2.il (fun c3 => ?_) (fun c3 => ?_)))
  · have c := i_lt.mp c; omega
  · have c2 := i_le.mp c2; rw [hns] at c2; omega
  rotate_left
  · have c := i_nlt c; have c2 := i_nle c2; have c3 := i_nlt c3; rw [hns] at c2; exfalso; omega
  have c := i_nlt c
  have c2 := i_nle c2
  rw [hns] at c2
  have g3 : ¬ r3 = 0 := by
    rcases p3 with ⟨z, _⟩ | ⟨_, z⟩
    · rw [z]; decide
    · exact absurd ⟨by omega, by omega⟩ z
  obtain ⟨j, hj, ej⟩ : ∃ j : Nat, j < 8 ∧ x1 = Int32.ofNat j := ⟨x1.toInt.toNat, by omega, o_of (by omega)⟩
  subst ej
  have tj : (Int32.ofNat j).toInt = (j : Int) := t_of (by omega)
  rw [tj] at c2
  obtain ⟨⟨q1, q2⟩, q3, q4⟩ := hq j c2
  obtain ⟨s1, s2, s3⟩ := h.1.st j c2
  have q1 : 0 ≤ (rd N 136 (54 + 4 * j)).toInt := q1
  have q2 : (rd N 136 (54 + 4 * j)).toInt < (nb 5 M : Int) := q2
  have q3 : 0 ≤ (rd N 136 (55 + 4 * j)).toInt := q3
  have q4 : (rd N 136 (55 + 4 * j)).toInt ≤ 1 := q4
  have s1 : (rd M 10 j).toInt = 2 * (rd N 136 (54 + 4 * j)).toInt + (rd N 136 (55 + 4 * j)).toInt := s1
  have b8 := nb8 (pr_9 h.1)
  obtain ⟨u, hu, eu⟩ : ∃ u : Nat, u < 8 ∧ rd N 136 (54 + 4 * j) = Int32.ofNat u := ⟨(rd N 136 (54 + 4 * j)).toInt.toNat, by omega, o_of q1⟩
  obtain ⟨w, hw, ew⟩ : ∃ w : Nat, w < 2 ∧ rd N 136 (55 + 4 * j) = Int32.ofNat w := ⟨(rd N 136 (55 + 4 * j)).toInt.toNat, by omega, o_of q3⟩
  have ec : rd M 10 j = Int32.ofNat (2 * u + w) := by
    rw [i_eq, s1, eu, ew, t_of (by omega), t_of (by omega), t_of (by omega)]; omega
  refine R2.xl (pc_reqChoice n3) (fun M1 _ q => ?_) (fun M1 e9 q => ?_)
  rotate_left
  · rcases q with ⟨e, _⟩ | ⟨e, q⟩
    · exact absurd (congrArg Prod.snd e) (by intro z; cases z)
    cases e
    refine R2.bad2 (Or.inr ⟨g3, ?_, rfl⟩) h
    rcases p6 with ⟨_, z⟩ | ⟨z, _⟩
    · exact absurd z q
    · exact z
  rcases q with ⟨e, q⟩ | ⟨e, _⟩
  rotate_left
  · exact absurd (congrArg Prod.snd e) (by intro z; cases z)
  cases e
  have g6 : ¬ r6 = 0 := by
    rcases p6 with ⟨z, _⟩ | ⟨_, z⟩
    · rw [z]; decide
    · exact absurd q z
  refine R2.ok2 g3 g6 ?_
  obtain ⟨d, hd, ed⟩ : ∃ d : Nat, d < 4 ∧ x2 = Int32.ofNat d := ⟨x2.toInt.toNat, by omega, o_of q.1⟩
  subst ed
  have out : Pc (mX7_stepOf 135 (Int32.ofNat j) (Int32.ofNat d) (wr N 135 5 0)) (fun r => r = rd N 136 (54 + 4 * j + d)) := by
    unfold mX7_stepOf
    refine Pc.k (fun _ => Pc.ok ?_)
    have m4 := i_mulc (a := (4 : Int32)) (b := Int32.ofNat j) (c := 4) rfl (by omega) (by omega)
    have td : (Int32.ofNat d).toInt = (d : Int) := t_of (by omega)
    have n54 : ((54 : Int32)).toInt = 54 := rfl
    have a1 : ((54 : Int32) + (4 : Int32) * Int32.ofNat j).toInt = 54 + 4 * (j : Int) := by rw [i_add (by omega) (by omega)]; omega
    have a2 : ((54 : Int32) + (4 : Int32) * Int32.ofNat j + Int32.ofNat d).toNatClampNeg = 54 + 4 * j + d := by rw [i_clamp, i_add (by omega) (by omega), a1, td]; omega
    rw [a2]
    exact rd_wk (by decide)
  have fin : ∀ v : Int32, v = rd N 136 (54 + 4 * j + d) → R2 (some (M, (Sum.inl v : Int32 ⊕ Nat))) (cap (mX7_stepOf 135 (Int32.ofNat j) (Int32.ofNat d) (wr N 135 5 0)) (fun r13 => some (wr N 135 5 0, r13))) (fun p q => XR nmb2 p q ∧ SS p.1 q.1) := fun v hv => R2.cr out (fun r e => R2.ok ⟨XR.inl rd_we (hv.trans e.symm), h.th⟩)
  have cj : (Int32.ofNat j).toNatClampNeg = j := c_of (by omega)
  have dne : ∀ k : Nat, k < 4 → k ≠ d → ¬ Int32.ofNat d = Int32.ofNat k := fun k hk ne z => ne (by have := congrArg Int32.toInt z; rw [t_of (by omega), t_of (by omega)] at this; omega)
  refine R2.il (fun z => R2.kl (fun _ => fin _ ?_)) (fun z => R2.il (fun z2 => R2.kl (fun _ => fin _ ?_)) (fun z2 => R2.il (fun z3 => R2.kl (fun _ => fin _ ?_)) (fun z3 => R2.kl (fun _ => fin _ ?_))))
  · have : d = 0 := Classical.byContradiction (fun q => dne 0 (by omega) (fun w => q w.symm) z)
    subst this
    rw [cj]; show rd M 10 j >>> _ = _
    rw [ec, f_shr1 _ (by omega), show (2 * u + w) / 2 = u from by omega]; exact eu.symm
  · have : d = 1 := Classical.byContradiction (fun q => dne 1 (by omega) (fun w => q w.symm) z2)
    subst this
    rw [cj]; show rd M 10 j &&& _ = _
    rw [ec, f_and1 _ (by omega), show (2 * u + w) % 2 = w from by omega, show 54 + 4 * j + 1 = 55 + 4 * j from by omega]; exact ew.symm
  · have : d = 2 := Classical.byContradiction (fun q => dne 2 (by omega) (fun w => q w.symm) z3)
    subst this
    rw [cj, show 54 + 4 * j + 2 = 56 + 4 * j from by omega]; exact s2
  · have : d = 3 := by
      rcases (show d = 0 ∨ d = 1 ∨ d = 2 ∨ d = 3 by omega) with e | e | e | e
      · exact absurd (by rw [e]; rfl) z
      · exact absurd (by rw [e]; rfl) z2
      · exact absurd (by rw [e]; rfl) z3
      · exact e
    subst this
    rw [cj, show 54 + 4 * j + 3 = 57 + 4 * j from by omega]; exact s3
theorem an_costSoFar (h : SS M N) : R2 (mX6_costSoFar 0 M) (mX7_costSoFar 135 N) (fun r q => r = q.2) := by
  have hns : rd M 5 14 = rd N 136 53 := h.1.ns
  have sb : 0 ≤ (rd N 136 53).toInt ∧ (rd N 136 53).toInt ≤ 8 := h.1.sb
  have n1 : ((1 : Int32)).toInt = 1 := rfl
  have n3 : ((3 : Int32)).toInt = 3 := rfl
  have n8 : ((8 : Int32)).toInt = 8 := rfl
  have n54 : ((54 : Int32)).toInt = 54 := rfl
  have lp : ∀ (f1 f2 : Nat) (x : Int32) (j : Nat), j ≤ 8 → R2 (mX1_sumOfCosts_l4 5 M f1 x (Int32.ofNat j)) (mX7_sumOfCosts_l4 135 (wr N 135 5 0) f2 x (Int32.ofNat j)) (fun r q => r = q) := by
    intro f1
    induction f1 with
    | zero => intro f2 x j _; exact R2.nl
    | succ f1 IH =>
      intro f2 x j hj
      cases f2 with
      | zero => exact R2.nr
      | succ f2 =>
        unfold mX1_sumOfCosts_l4 mX7_sumOfCosts_l4 mX1_sumOfCosts_b4 mX7_sumOfCosts_b4
        have tj : (Int32.ofNat j).toInt = (j : Int) := t_of (by omega)
        have e53 : rd (wr N 135 5 0) (135 + 1) ((53 : Int32)).toNatClampNeg = rd N 136 53 := rd_wk (by decide)
        rw [hns, e53]
        refine R2.kr (fun _ => R2.il (fun c => R2.ir (fun _ => R2.ok rfl) (fun c2 => absurd c c2)) (fun c => R2.ir (fun c2 => absurd c2 c) (fun _ => R2.il (fun c3 => ?_) (fun c3 => R2.kl (fun _ => ?_)))))
        · have c := i_nle c; have c3 := i_le.mp c3; exfalso; omega
        have c := i_nle c
        rw [tj] at c
        have out : Pc (mX7_stepOf 135 (Int32.ofNat j) (3 : Int32) (wr N 135 5 0)) (fun r => r = rd N 136 (57 + 4 * j)) := by
          unfold mX7_stepOf
          refine Pc.k (fun _ => Pc.ok ?_)
          have m4 := i_mulc (a := (4 : Int32)) (b := Int32.ofNat j) (c := 4) rfl (by omega) (by omega)
          have a1 : ((54 : Int32) + (4 : Int32) * Int32.ofNat j).toInt = 54 + 4 * (j : Int) := by rw [i_add (by omega) (by omega)]; omega
          have a2 : ((54 : Int32) + (4 : Int32) * Int32.ofNat j + (3 : Int32)).toNatClampNeg = 57 + 4 * j := by rw [i_clamp, i_add (by omega) (by omega), a1, n3]; omega
          rw [a2]
          exact rd_wk (by decide)
        refine R2.cr out (fun r er => R2.bl (fun x1' ex => R2.bl (fun j' ej => R2.br (fun x2' ex2 => R2.br (fun j2 ej2 => ?_)))))
        have s3 : rd M 12 j = rd N 136 (57 + 4 * j) := (h.1.st j c).2.2
        have ex : x1' = x + rd N 136 (57 + 4 * j) := by rw [ex, c_of (by omega)]; exact congrArg (x + ·) s3
        have e1 : (Int32.ofNat j + 1) = Int32.ofNat (j + 1) := by rw [i_eq, i_add (by omega) (by omega), tj, t_of (by omega)]; omega
        rw [ex, ex2, er, ej, ej2, e1]
        exact IH f2 _ (j + 1) (by omega)
  unfold mX6_costSoFar mX7_costSoFar mX1_sumOfCosts mX7_sumOfCosts
  refine R2.br (fun N1 e1 => ?_)
  subst e1
  exact R2.cc (lp 5000 5000 0 0 (by omega)) (fun r q e => R2.ok e)
theorem an_longestLeg (h : SS M N) : R2 (mX6_longestLeg 0 M) (mX7_longestLeg 135 N) (fun r q => r = q.2) := by
  have lb : 0 ≤ (rd N 136 1).toInt ∧ (rd N 136 1).toInt ≤ 9 := h.1.lb
  have lc : rd M 5 0 = rd N 136 1 := h.1.lc
  have n1 : ((1 : Int32)).toInt = 1 := rfl
  have n2 : ((2 : Int32)).toInt = 2 := rfl
  have n9 : ((9 : Int32)).toInt = 9 := rfl
  have lp : ∀ (f1 f2 : Nat) (x : Int32) (j : Nat), j ≤ 9 → (x = -1 ∨ ∃ i : Nat, i < j ∧ x = Int32.ofNat i) → R2 (mX6_longestLeg_l4 0 M f1 x (Int32.ofNat j)) (mX7_longestLeg_l9 135 f2 x (Int32.ofNat j) (wr N 135 5 0)) (fun r q => r = q.2) := by
    intro f1
    induction f1 with
    | zero => intro f2 x j _ _; exact R2.nl
    | succ f1 IH =>
      intro f2 x j hj hx
      cases f2 with
      | zero => exact R2.nr
      | succ f2 =>
        unfold mX6_longestLeg_l4 mX7_longestLeg_l9 mX6_longestLeg_b4 mX7_longestLeg_b9 mX6_longestLeg_b47 mX6_longestLeg_b49 mX7_longestLeg_b43 mX7_longestLeg_b48
        have tj : (Int32.ofNat j).toInt = (j : Int) := t_of (by omega)
        have e1 : rd (wr N 135 5 0) (135 + 1) ((1 : Int32)).toNatClampNeg = rd N 136 1 := rd_wk (by decide)
        have ej1 : (Int32.ofNat j + 1) = Int32.ofNat (j + 1) := by rw [i_eq, i_add (by omega) (by omega), tj, t_of (by omega)]; omega
        rw [lc, e1]
        refine R2.kr (fun _ => R2.il (fun c => R2.ir (fun _ => R2.ok rfl) (fun c2 => absurd c c2)) (fun c => R2.ir (fun c2 => absurd c2 c) (fun _ => R2.il (fun c3 => ?_) (fun c3 => ?_))))
        · have c := i_nle c; have c3 := i_le.mp c3; exfalso; omega
        have c := i_nle c
        rw [tj] at c
        have take : R2 (bnd (Int32.ofNat j + (1 : Int32)) (fun z => mX6_longestLeg_l4 0 M f1 (Int32.ofNat j) z)) (bnd (Int32.ofNat j + (1 : Int32)) (fun z => mX7_longestLeg_l9 135 f2 (Int32.ofNat j) z (wr N 135 5 0))) (fun r q => r = q.2) := by
          refine R2.bl (fun z ez => R2.br (fun z2 ez2 => ?_))
          rw [ez, ez2, ej1]
          exact IH f2 _ (j + 1) (by omega) (Or.inr ⟨j, by omega, rfl⟩)
        have keep : R2 (bnd (Int32.ofNat j + (1 : Int32)) (fun z => mX6_longestLeg_l4 0 M f1 x z)) (bnd (Int32.ofNat j + (1 : Int32)) (fun z => mX7_longestLeg_l9 135 f2 x z (wr N 135 5 0))) (fun r q => r = q.2) := by
          refine R2.bl (fun z ez => R2.br (fun z2 ez2 => ?_))
          rw [ez, ez2, ej1]
          refine IH f2 _ (j + 1) (by omega) ?_
          rcases hx with e | ⟨i, hi, e⟩
          · exact Or.inl e
          · exact Or.inr ⟨i, by omega, e⟩
        refine R2.il (fun d => R2.ir (fun _ => take) (fun d2 => absurd d d2)) (fun d => R2.ir (fun d2 => absurd d2 d) (fun _ => ?_))
        obtain ⟨i, hi, ei⟩ : ∃ i : Nat, i < j ∧ x = Int32.ofNat i := by
          rcases hx with e | q
          · exact absurd e d
          · exact q
        have ti : x.toInt = (i : Int) := by rw [ei, t_of (by omega)]
        have k1 : ((2 : Int32) + Int32.ofNat j).toNatClampNeg = 2 + j := by rw [i_clamp, i_add (by omega) (by omega)]; omega
        have k2 : ((2 : Int32) + x).toNatClampNeg = 2 + i := by rw [i_clamp, i_add (by omega) (by omega)]; omega
        have cx : x.toNatClampNeg = i := by rw [ei, c_of (by omega)]
        have v1 : rd (wr N 135 5 0) (135 + 1) (2 + j) = rd M (5 + 1) j := (rd_wk (by decide)).trans (h.1.leg j c).symm
        have v2 : rd (wr N 135 5 0) (135 + 1) (2 + i) = rd M (5 + 1) i := (rd_wk (by decide)).trans (h.1.leg i (by have c' : (j : Int) < (row 136 N 1).toInt := c; omega)).symm
        rw [k1, k2, cx, c_of (by omega), v1, v2]
        exact R2.kl (fun _ => R2.kl (fun _ => R2.kr (fun _ => R2.kr (fun _ => R2.il (fun z => R2.ir (fun _ => keep) (fun z2 => absurd z z2)) (fun z => R2.ir (fun z2 => absurd z2 z) (fun _ => take))))))
  unfold mX6_longestLeg mX7_longestLeg
  refine R2.br (fun N1 e1 => ?_)
  subst e1
  exact lp 5000 5000 (-1) 0 (by omega) (Or.inl rfl)
theorem cnt_b {b : Nat} (hb : b < 8) : (∀ n, n < 9 → b < n → (((Int32.ofNat n - (1 : Int32)) - Int32.ofNat b).toNatClampNeg = n - 1 - b ∧ ((Int32.ofNat n - (1 : Int32)) - Int32.ofNat b) = Int32.ofNat (n - 1 - b))) := by
  intro n hn hbn
  have n1 : ((1 : Int32)).toInt = 1 := rfl
  have tn : (Int32.ofNat n).toInt = (n : Int) := t_of (by omega)
  have tb : (Int32.ofNat b).toInt = (b : Int) := t_of (by omega)
  have e1 : (Int32.ofNat n - (1 : Int32)).toInt = (n : Int) - 1 := by rw [i_sub (by omega) (by omega)]; omega
  have e2 : ((Int32.ofNat n - (1 : Int32)) - Int32.ofNat b).toInt = (n : Int) - 1 - b := by rw [i_sub (by omega) (by omega)]; omega
  exact ⟨by rw [i_clamp, e2]; omega, by rw [i_eq, e2, t_of (by omega)]; omega⟩
/-- the reference: a row of numbers is the same from its other end -/
theorem pc_mir {p n : Nat} (hp : p < 20) (hn : n ≤ 9) : ∀ (f j : Nat) (x3 : Int32), j ≤ n → (x3 = 0 ∨ x3 = 1) → Pc (mX7_isMirrored_l5 135 N f (Int32.ofNat p) (Int32.ofNat n) x3 (Int32.ofNat j)) (fun r => (¬ r = 0) ↔ (x3 = 1 ∧ ∀ i, j ≤ i → i < n → rd N 136 (p + i) = rd N 136 (p + (n - 1 - i)))) := by
  intro f
  induction f with
  | zero => intro j x3 _ _; exact Pc.n
  | succ f IH =>
    intro j x3 hj hx
    unfold mX7_isMirrored_l5 mX7_isMirrored_b5 mX7_isMirrored_b44 mX7_isMirrored_b45
    have tj : (Int32.ofNat j).toInt = (j : Int) := t_of (by omega)
    have tn : (Int32.ofNat n).toInt = (n : Int) := t_of (by omega)
    have tp : (Int32.ofNat p).toInt = (p : Int) := t_of (by omega)
    have n1 : ((1 : Int32)).toInt = 1 := rfl
    have ej1 : (Int32.ofNat j + 1) = Int32.ofNat (j + 1) := by rw [i_eq, i_add (by omega) (by omega), tj, t_of (by omega)]; omega
    refine Pc.i (fun c => Pc.k (fun _ => Pc.ok ?_)) (fun c => ?_)
    · have c := i_le.mp c
      rw [tn, tj] at c
      constructor
      · intro q
        rcases hx with e | e
        · exact absurd e q
        · exact ⟨e, fun i h1 h2 => by omega⟩
      · intro q z
        rw [q.1] at z; exact absurd z (by decide)
    have c := i_nle c
    rw [tn, tj] at c
    have bad : (¬ (x3 = 1 ∧ ∀ i, j ≤ i → i < n → rd N 136 (p + i) = rd N 136 (p + (n - 1 - i)))) → Pc (bnd (Int32.ofNat j + (1 : Int32)) (fun z => mX7_isMirrored_l5 135 N f (Int32.ofNat p) (Int32.ofNat n) (0 : Int32) z)) (fun r => (¬ r = 0) ↔ (x3 = 1 ∧ ∀ i, j ≤ i → i < n → rd N 136 (p + i) = rd N 136 (p + (n - 1 - i)))) := fun q => by
      refine Pc.b (fun z ez => ?_)
      rw [ez, ej1]
      refine (IH (j + 1) 0 (by omega) (Or.inl rfl)).mono (fun r hr => ⟨fun y => absurd (hr.mp y).1 (by decide), fun y => absurd y q⟩)
    refine Pc.i (fun d => bad (fun q => by rw [q.1] at d; exact absurd d (by decide))) (fun d => Pc.k (fun _ => Pc.k (fun _ => ?_)))
    have ex : x3 = 1 := by
      rcases hx with e | e
      · exact absurd e d
      · exact e
    have k1 : (Int32.ofNat p + Int32.ofNat j).toNatClampNeg = p + j := by rw [i_clamp, i_add (by omega) (by omega)]; omega
    have a1 : (Int32.ofNat p + Int32.ofNat n).toInt = (p : Int) + n := by rw [i_add (by omega) (by omega)]; omega
    have a2 : (Int32.ofNat p + Int32.ofNat n - (1 : Int32)).toInt = (p : Int) + n - 1 := by rw [i_sub (by omega) (by omega)]; omega
    have k2 : (Int32.ofNat p + Int32.ofNat n - (1 : Int32) - Int32.ofNat j).toNatClampNeg = p + (n - 1 - j) := by rw [i_clamp, i_sub (by omega) (by omega), a2]; omega
    rw [k1, k2]
    refine Pc.i (fun z => Pc.b (fun j' e' => ?_)) (fun z => bad (fun q => z (q.2 j (by omega) (by omega))))
    rw [e', ej1]
    refine (IH (j + 1) 1 (by omega) (Or.inr rfl)).mono (fun r hr => ⟨fun y => ⟨ex, fun i h1 h2 => ?_⟩, fun y => hr.mpr ⟨rfl, fun i h1 h2 => y.2 i (by omega) h2⟩⟩)
    by_cases q : i = j
    · rw [q]; exact z
    · exact (hr.mp y).2 i (by omega) h2
theorem pc_same (h : SS M N) : Pc (mX1_isSameFromOtherEnd 5 M) (fun r => (r = 0 ∨ r = 1) ∧ ((¬ r = 0) ↔ ((∀ i, i < (rd N 136 1).toInt.toNat → rd N 136 (2 + i) = rd N 136 (2 + ((rd N 136 1).toInt.toNat - 1 - i))) ∧ ∀ i, i < nb 5 M → rd N 136 (11 + i) = rd N 136 (11 + (nb 5 M - 1 - i))))) := by
  have lb : 0 ≤ (rd N 136 1).toInt ∧ (rd N 136 1).toInt ≤ 9 := h.1.lb
  have lc : rd M 5 0 = rd N 136 1 := h.1.lc
  have b8 := nb8 (pr_9 h.1)
  have hub := h.1.ub
  have hlen : (rd N 136 0).toInt = (nb 5 M : Int) := h.1.pb.bn
  have hup : ∀ b : Nat, b < nb 5 M → rd N 136 (11 + b) = if (rd M 5 2).toInt.toNat.testBit b then 1 else 0 := fun b hb => h.1.up b (by have c : ((row 136 N) 0).toInt = (nb 5 M : Int) := hlen; omega)
  obtain ⟨w, hw, ew⟩ : ∃ w : Nat, w ≤ 9 ∧ rd N 136 1 = Int32.ofNat w := ⟨(rd N 136 1).toInt.toNat, by omega, o_of lb.1⟩
  have tw : (rd N 136 1).toInt = (w : Int) := by rw [ew, t_of (by omega)]
  have n1 : ((1 : Int32)).toInt = 1 := rfl
  have n9 : ((9 : Int32)).toInt = 9 := rfl
  rw [tw, show ((w : Int)).toNat = w from by omega]
  generalize hnn : nb 5 M = n at *
  have lb2 : ∀ (f j : Nat), j ≤ n → Pc (mX1_isSameFromOtherEnd_l48 5 M f (Int32.ofNat j)) (fun r => (r = 0 ∨ r = 1) ∧ ((¬ r = 0) ↔ ∀ i, j ≤ i → i < n → rd N 136 (11 + i) = rd N 136 (11 + (n - 1 - i)))) := by
    intro f
    induction f with
    | zero => intro j _; exact Pc.n
    | succ f IH =>
      intro j hj
      unfold mX1_isSameFromOtherEnd_l48 mX1_isSameFromOtherEnd_b48
      have tj : (Int32.ofNat j).toInt = (j : Int) := t_of (by omega)
      have ej1 : (Int32.ofNat j + 1) = Int32.ofNat (j + 1) := by rw [i_eq, i_add (by omega) (by omega), tj, t_of (by omega)]; omega
      have bc : Pc (mX1_bendCount 5 M) (fun r => r = Int32.ofNat n) := hnn ▸ pc_bends (pr_9 h.1)
      refine Pc.c bc (fun r3 e3 => ?_)
      subst e3
      refine Pc.i (fun c => Pc.ok ⟨Or.inr rfl, fun _ i h1 h2 => ?_, fun _ z => absurd z (by decide)⟩) (fun c => ?_)
      · have c := i_le.mp c
        rw [t_of (by omega), tj] at c; omega
      have c := i_nle c
      rw [tj, t_of (by omega)] at c
      refine Pc.c (pc_goesUp hub (by omega)) (fun r7 e7 => Pc.c bc (fun r10 e10 => ?_))
      subst e10
      rw [(cnt_b (b := j) (by omega) n (by omega) (by omega)).2]
      refine Pc.c (pc_goesUp hub (by omega)) (fun r13 e13 => ?_)
      rw [← hup j (by omega)] at e7
      rw [← hup (n - 1 - j) (by omega)] at e13
      refine Pc.i (fun z => Pc.b (fun j' e' => ?_)) (fun z => Pc.ok ⟨Or.inl rfl, fun y => absurd rfl y, fun y => absurd (by rw [e7, e13]; exact y j (by omega) (by omega)) z⟩)
      rw [e', ej1]
      refine (IH (j + 1) (by omega)).mono (fun r hr => ⟨hr.1, fun y i h1 h2 => ?_, fun y => hr.2.mpr (fun i h1 h2 => y i (by omega) h2)⟩)
      by_cases q : i = j
      · rw [q, ← e7, ← e13]; exact z
      · exact hr.2.mp y i (by omega) h2
  have la : ∀ (f j : Nat), j ≤ w → Pc (mX1_isSameFromOtherEnd_l2 5 M f (Int32.ofNat j)) (fun r => (r = 0 ∨ r = 1) ∧ ((¬ r = 0) ↔ ((∀ i, j ≤ i → i < w → rd N 136 (2 + i) = rd N 136 (2 + (w - 1 - i))) ∧ ∀ i, i < n → rd N 136 (11 + i) = rd N 136 (11 + (n - 1 - i))))) := by
    intro f
    induction f with
    | zero => intro j _; exact Pc.n
    | succ f IH =>
      intro j hj
      unfold mX1_isSameFromOtherEnd_l2 mX1_isSameFromOtherEnd_b2 mX1_isSameFromOtherEnd_b46
      have tj : (Int32.ofNat j).toInt = (j : Int) := t_of (by omega)
      have ej1 : (Int32.ofNat j + 1) = Int32.ofNat (j + 1) := by rw [i_eq, i_add (by omega) (by omega), tj, t_of (by omega)]; omega
      rw [lc]
      refine Pc.i (fun c => ?_) (fun c => Pc.i (fun c3 => ?_) (fun c3 => ?_))
      · have c := i_le.mp c
        rw [tw, tj] at c
        refine (lb2 5000 0 (by omega)).mono (fun r hr => ⟨hr.1, fun y => ⟨fun i h1 h2 => by omega, fun i h2 => hr.2.mp y i (by omega) h2⟩, fun y => hr.2.mpr (fun i _ h2 => y.2 i h2)⟩)
      · have c := i_nle c; have c3 := i_le.mp c3; exfalso; omega
      have c := i_nle c
      rw [tw, tj] at c
      refine Pc.k (fun _ => Pc.k (fun _ => ?_))
      have v2 : ∀ i, i < w → rd M (5 + 1) i = rd N 136 (2 + i) := fun i hi => h.1.leg i (by have c' : (row 136 N 1).toInt = (w : Int) := tw; omega)
      have ek : ((rd N 136 1 - (1 : Int32)) - Int32.ofNat j).toNatClampNeg = w - 1 - j := by
        have e1 : (rd N 136 1 - (1 : Int32)).toInt = (w : Int) - 1 := by rw [i_sub (by omega) (by omega)]; omega
        rw [i_clamp, i_sub (by omega) (by omega), e1]; omega
      rw [ek, c_of (by omega), v2 j (by omega), v2 (w - 1 - j) (by omega)]
      refine Pc.i (fun z => Pc.b (fun j' e' => ?_)) (fun z => Pc.ok ⟨Or.inl rfl, fun y => absurd rfl y, fun y => absurd (y.1 j (by omega) (by omega)) z⟩)
      rw [e', ej1]
      refine (IH (j + 1) (by omega)).mono (fun r hr => ⟨hr.1, fun y => ⟨fun i h1 h2 => ?_, (hr.2.mp y).2⟩, fun y => hr.2.mpr ⟨fun i h1 h2 => y.1 i (by omega) h2, y.2⟩⟩)
      by_cases q : i = j
      · rw [q]; exact z
      · exact (hr.2.mp y).1 i (by omega) h2
  unfold mX1_isSameFromOtherEnd
  exact (la 5000 0 (by omega)).mono (fun r hr => ⟨hr.1, fun y => ⟨fun i h2 => (hr.2.mp y).1 i (by omega) h2, (hr.2.mp y).2⟩, fun y => hr.2.mpr ⟨fun i _ h2 => y.1 i h2, y.2⟩⟩)
theorem an_isSymmetric (h : SS M N) : R2 (mX6_isSymmetric 0 M) (mX7_isSymmetric 135 N) (fun r q => r = q.2) := by
  have lb : 0 ≤ (rd N 136 1).toInt ∧ (rd N 136 1).toInt ≤ 9 := h.1.lb
  have b8 := nb8 (pr_9 h.1)
  have hlen : (rd N 136 0).toInt = (nb 5 M : Int) := h.1.pb.bn
  unfold mX6_isSymmetric mX7_isSymmetric mX7_isMirrored
  refine R2.cl (pc_same h) (fun r2 p2 => R2.kl (fun _ => R2.br (fun N1 e1 => R2.kr (fun _ => ?_))))
  have k1 : rd N1 (135 + 1) ((1 : Int32)).toNatClampNeg = Int32.ofNat (rd N 136 1).toInt.toNat := by rw [e1]; exact (rd_wk (by decide)).trans (o_of lb.1)
  have k0 : rd N1 (135 + 1) ((0 : Int32)).toNatClampNeg = Int32.ofNat (nb 5 M) := by
    rw [e1, i_eq, t_of (by omega)]; exact (congrArg Int32.toInt (rd_wk (M := N) (k := 135) (j := 5) (v := 0) (k' := 136) (j' := 0) (by decide))).trans hlen
  have rk : ∀ j, rd N1 136 j = rd N 136 j := fun j => by rw [e1]; exact rd_wk (by decide)
  rw [k1]
  refine R2.cr (pc_mir (N := N1) (p := 2) (n := (rd N 136 1).toInt.toNat) (by omega) (by omega) 5000 0 1 (by omega) (Or.inr rfl)) (fun r5 p5 => ?_)
  have q5 : (¬ r5 = 0) ↔ ∀ i, i < (rd N 136 1).toInt.toNat → rd N 136 (2 + i) = rd N 136 (2 + ((rd N 136 1).toInt.toNat - 1 - i)) := ⟨fun y i hi => by have := (p5.mp y).2 i (by omega) hi; rw [rk, rk] at this; exact this, fun y => p5.mpr ⟨rfl, fun i _ hi => by rw [rk, rk]; exact y i hi⟩⟩
  have no : (r2 = 0 ∨ r2 = 1) → ¬ (¬ r2 = 0) → r2 = 0 := fun a b => Classical.byContradiction b
  refine R2.ir (fun c => R2.ok (no p2.1 (fun y => q5.mpr (p2.2.mp y).1 c))) (fun c => R2.kr (fun _ => ?_))
  rw [k0]
  refine R2.cr (pc_mir (N := N1) (p := 11) (n := nb 5 M) (by omega) (by omega) 5000 0 1 (by omega) (Or.inr rfl)) (fun r10 p10 => ?_)
  have q10 : (¬ r10 = 0) ↔ ∀ i, i < nb 5 M → rd N 136 (11 + i) = rd N 136 (11 + (nb 5 M - 1 - i)) := ⟨fun y i hi => by have := (p10.mp y).2 i (by omega) hi; rw [rk, rk] at this; exact this, fun y => p10.mpr ⟨rfl, fun i _ hi => by rw [rk, rk]; exact y i hi⟩⟩
  refine R2.ir (fun c2 => R2.ok (no p2.1 (fun y => q10.mpr (p2.2.mp y).2 c2))) (fun c2 => R2.ok ?_)
  show r2 = 1
  rcases p2.1 with e | e
  · exact absurd e (p2.2.mpr ⟨q5.mp c, q10.mp c2⟩)
  · exact e
end SL
