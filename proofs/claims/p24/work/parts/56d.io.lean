/-! write, written, feed, load -/
theorem OKb.sub {b : Bool} {g : Nat → Int × Int} {s s' : Nat → Int × Int} {M : Mem} (h : OKb (b, g, s) M) (hs : ∀ i, (s' i).1 ≤ (s i).1 ∧ (s i).2 ≤ (s' i).2) : OKb (b, g, s') M := by
  intro k j
  have hk := h k j
  by_cases e : (k = 0 ∧ j = 1) ∨ (k = 133 ∧ (j = 0 ∨ j = 3))
  · rcases e with ⟨rfl, rfl⟩ | ⟨rfl, rfl | rfl⟩
    · have h1 : (s 1).1 ≤ (rd M 0 1).toInt ∧ (rd M 0 1).toInt ≤ (s 1).2 := hk
      show (s' 1).1 ≤ _ ∧ _ ≤ (s' 1).2
      have := hs 1; omega
    · have h1 : (s 0).1 ≤ (rd M 133 0).toInt ∧ (rd M 133 0).toInt ≤ (s 0).2 := hk
      show (s' 0).1 ≤ _ ∧ _ ≤ (s' 0).2
      have := hs 0; omega
    · have h1 : (s 2).1 ≤ (rd M 133 3).toInt ∧ (rd M 133 3).toInt ≤ (s 2).2 := hk
      show (s' 2).1 ≤ _ ∧ _ ≤ (s' 2).2
      have := hs 2; omega
  · have e2 : bxc (b, g, s') k j = bxc (b, g, s) k j := by
      unfold bxc
      by_cases k0 : k = 0
      · subst k0
        rw [if_pos rfl, if_pos rfl, if_neg (by omega), if_neg (by omega)]
      · by_cases k1 : k = 133
        · subst k1
          have j0 : ¬ j = 0 := by omega
          have j3 : ¬ j = 3 := by omega
          simp only [k0, j0, j3, if_false]
        · simp only [k0, k1, if_false]
    rw [e2]; exact hk
section IO
variable {s : Nat → Int × Int} {M : Mem} {x1 : Int32}
theorem sb_costs_l {f : Bx} (h : OKb f M) : ∀ (n : Nat) (x1 x2 : Int32) (_ : 0 ≤ x2.toInt ∧ x2.toInt ≤ 8) (_ : 0 ≤ x1.toInt ∧ x1.toInt ≤ 297 * x2.toInt) (_ : 8 - x2.toInt < n), Sf (mX1_sumOfCosts_l4 5 M n x1 x2) (pI 0 2376) := by
  intro n
  induction n with
  | zero => intro x1 x2 h2 h1 hmu; exfalso; omega
  | succ n IH =>
    intro x1 x2 h2 h1 hmu
    show Sf (mX1_sumOfCosts_b4 5 M (mX1_sumOfCosts_l4 5 M n) x1 x2) _
    unfold mX1_sumOfCosts_b4
    have n1 : ((1 : Int32)).toInt = 1 := rfl
    refine Sf.i (fun _ => Sf.ok ⟨h1.1, by omega⟩) (fun _ => Sf.i (fun _ => Sf.ok ⟨h1.1, by omega⟩) (fun c => ?_))
    have c := i_nle c
    rw [show ((8 : Int32)).toInt = 8 from rfl] at c
    have b : (0 : Int) ≤ (rd M (5 + 7) x2.toNatClampNeg).toInt ∧ (rd M (5 + 7) x2.toNatClampNeg).toInt ≤ 297 := h.at (bx_P (c := 7) isP_5 (by decide))
    refine Sf.k (ok_in (by omega) (by omega)) (Sf.b (fun y1 e1 => Sf.b (fun y2 e2 => ?_)))
    have t1 : y1.toInt = x1.toInt + (rd M (5 + 7) x2.toNatClampNeg).toInt := by rw [e1]; exact i_add (by omega) (by omega)
    have t2 : y2.toInt = x2.toInt + 1 := by rw [e2]; exact i_add (by omega) (by omega)
    exact IH y1 y2 (by omega) (by omega) (by omega)
theorem sb_costs {f : Bx} (h : OKb f M) : Sf (mX1_sumOfCosts 5 M) (pI 0 2376) := by
  unfold mX1_sumOfCosts
  exact sb_costs_l h 5000 0 0 (by decide) (by decide) (by decide)
theorem sb_bend_b {g : Int32} {y1 : Int32} (h : SBi s M) (hg : rd M 133 0 = g) (hy : y1.toInt ≤ 255) (hc : (rd M 133 3).toInt + 2 ≤ 70) : Sf (mX6_writeBend_b22 0 g x1 y1 M) (fun q => SBi s q.1 ∧ (rd q.1 133 3).toInt ≤ (rd M 133 3).toInt + 2) := by
  unfold mX6_writeBend_b22
  refine Sf.k (decide_eq_true hg) (Sf.m (sb_appC4 h hy (by omega)) (fun M8 _ p => ?_))
  have h8 : SBi s M8 := p.1
  have c8 : (rd M8 133 3).toInt = (rd M 133 3).toInt + 1 := p.2
  refine Sf.i (fun _ => Sf.ok ⟨h8, by show (rd M8 133 3).toInt ≤ _; omega⟩) (fun _ => Sf.m (sb_appC4 h8 (by decide) (by omega)) (fun M12 _ p12 => Sf.ok ⟨p12.1, ?_⟩))
  have c12 : (rd M12 133 3).toInt = (rd M8 133 3).toInt + 1 := p12.2
  show (rd M12 133 3).toInt ≤ _
  omega
theorem sb_bend (h : SBi s M) (hx : 0 ≤ x1.toInt ∧ x1.toInt ≤ 7) (hc : (rd M 133 3).toInt + 2 ≤ 70) : Sf (mX6_writeBend 0 x1 M) (fun q => SBi s q.1 ∧ (rd q.1 133 3).toInt ≤ (rd M 133 3).toInt + 2) := by
  unfold mX6_writeBend
  exact Sf.c (sX1_goesUp isP_5 h.1 ⟨by omega, by omega⟩) (fun r _ => Sf.i (fun _ => sb_bend_b h rfl (by decide) hc) (fun _ => sb_bend_b h rfl (by decide) hc))
theorem sb_b97 {g : Int32} (h : SBi s M) (hg : rd M 133 0 = g) : Sf (mX6_write_b97 0 g M) (fun q => SBi s q.1) := by
  unfold mX6_write_b97
  refine Sf.k (decide_eq_true hg) (Sf.c (Q := fun _ => True) ⟨_, rfl, trivial⟩ (fun r _ => Sf.k (decide_eq_true hg) (Sf.ok h)))
theorem sb_b61 {g : Int32} (h : SBi s M) (hg : rd M 133 0 = g) (hc : (rd M 133 3).toInt ≤ 54) : Sf (mX6_write_b61 0 g M) (fun q => SBi s q.1) := by
  unfold mX6_write_b61
  refine Sf.i (fun _ => sb_b97 h hg) (fun _ => Sf.k (decide_eq_true hg) (Sf.m (sb_appS h (by omega)) (fun M14 _ p => ?_)))
  have h14 : SBi s M14 := p.1
  have c14 : (rd M14 133 3).toInt ≤ (rd M 133 3).toInt + 6 := p.2
  refine Sf.c (sb_costs h14.1) (fun r16 pr => Sf.m (sb_appI h14 ⟨pr.1, by have := pr.2; omega⟩ (by omega)) (fun M20 _ p20 => sb_b97 p20.1 rfl))
theorem sb_loop : ∀ (n : Nat) (x1 : Int32) (M : Mem) (_ : SBi s M) (_ : 0 ≤ x1.toInt ∧ x1.toInt ≤ 9) (_ : (rd M 133 3).toInt ≤ 6 * x1.toInt) (_ : 9 - x1.toInt < n), Sf (mX6_write_l10 0 n (rd M 133 0) x1 M) (fun q => SBi s q.1) := by
  intro n
  induction n with
  | zero => intro x1 M h h1 hc hmu; exfalso; omega
  | succ n IH =>
    intro x1 M h h1 hc hmu
    show Sf (mX6_write_b10 0 (rd M 133 0) (mX6_write_l10 0 n) x1 M) _
    have b38 : ∀ (M : Mem), SBi s M → x1.toInt < 9 → (rd M 133 3).toInt ≤ 6 * x1.toInt + 2 → Sf (mX6_write_b38 0 (rd M 133 0) (mX6_write_l10 0 n) x1 M) (fun q => SBi s q.1) := by
      intro M h h9 hc
      unfold mX6_write_b38
      have n1 : ((1 : Int32)).toInt = 1 := rfl
      have b : (0 : Int) ≤ (rd M (5 + 1) x1.toNatClampNeg).toInt ∧ (rd M (5 + 1) x1.toNatClampNeg).toInt ≤ 9999 := h.1.at (bx_P (c := 1) isP_5 (by decide))
      refine Sf.k (ok_in (by omega) (by omega)) (Sf.k (decide_eq_true rfl) (Sf.m (sb_appI h b (by omega)) (fun M27 _ p => Sf.b (fun y ey => ?_))))
      have c27 : (rd M27 133 3).toInt ≤ (rd M 133 3).toInt + 4 := p.2
      have ty : y.toInt = x1.toInt + 1 := by rw [ey]; exact i_add (by omega) (by omega)
      exact IH y M27 p.1 (by omega) (by omega) (by omega)
    unfold mX6_write_b10
    refine Sf.k (decide_eq_true (by rw [i_clamp]; omega)) (Sf.i (fun _ => sb_b61 h rfl (by omega)) (fun _ => Sf.i (fun _ => sb_b61 h rfl (by omega)) (fun c => ?_)))
    have c := i_nle c
    rw [show ((9 : Int32)).toInt = 9 from rfl] at c
    refine Sf.i (fun _ => b38 M h c (by omega)) (fun c0 => Sf.k (decide_eq_true rfl) ?_)
    have c0 := i_nle c0
    rw [show ((0 : Int32)).toInt = 0 from rfl] at c0
    have n1 : ((1 : Int32)).toInt = 1 := rfl
    have e := i_sub (a := x1) (b := 1) (by omega) (by omega)
    refine Sf.m (sb_bend h (by omega) (by omega)) (fun M32 _ p => b38 M32 p.1 c ?_)
    have c32 : (rd M32 133 3).toInt ≤ (rd M 133 3).toInt + 2 := p.2
    omega
theorem sb_len0 (h : SBi s M) : Sf (mJ4_setLength_d00df (0 : Int32) M) (fun q => SBi s q.1 ∧ (rd q.1 133 3).toInt = 0) := by
  unfold mJ4_setLength_d00df
  refine Sf.m (Q := fun q => SBi s q.1 ∧ (rd q.1 133 3).toInt = 0) ?_ (fun M3 _ p => Sf.ok p)
  unfold mJ5_setLength_d00df
  have b := sb_n h.1
  refine Sf.i (fun _ => Sf.m (sb_ens h (by decide) (by rw [show ((0 : Int32)).toInt = 0 from rfl]; omega)) (fun M4 _ p => ?_)) (fun c => absurd (by decide) c)
  have h4 : SBi s M4 := p.1
  have b4 := sb_n h4.1
  have fin : ∀ M' : Mem, OKb (fT (sW s)) M' → rd M' 133 0 = rd M4 133 0 → rd M' 133 3 = 0 → SBi s M' ∧ (rd M' 133 3).toInt = 0 := by
    intro M' h' _ c'
    exact ⟨⟨h', by rw [c', show ((0 : Int32)).toInt = 0 from rfl]; omega⟩, by rw [c']; rfl⟩
  refine Sf.i (fun _ => Sf.i (fun _ => Sf.b (fun M7 e7 => ?_)) (fun _ => Sf.b (fun M10 e10 => Sf.b (fun M12 e12 => ?_)))) (fun c => ?_)
  · have l7 : rd M7 133 0 = rd M4 133 0 := by rw [e7, rd_wj (by decide)]
    exact Sf.k (decide_eq_true l7) (Sf.ok (fin M7 (by rw [e7]; exact sb_set3 h4.1 (by decide)) l7 (by rw [e7]; exact rd_we)))
  · have o10 : OKb (fT (sW s)) M10 := by rw [e10]; exact h4.1.put (b := (0, 1)) rfl (by decide)
    have l12 : rd M12 133 0 = rd M4 133 0 := by rw [e12, rd_wj (by decide), e10, rd_wj (by decide)]
    exact Sf.k (decide_eq_true l12) (Sf.ok (fin M12 (by rw [e12]; exact sb_set3 o10 (by decide)) l12 (by rw [e12]; exact rd_we)))
  · exfalso
    have := mt i_le.mpr c
    rw [show ((0 : Int32)).toInt = 0 from rfl] at this
    omega
theorem sX6_write (h : SBi s M) : Sf (mX6_write 0 M) (fun q => SBi s q.1) := by
  unfold mX6_write
  refine Sf.m (sb_len0 h) (fun M3 _ p => ?_)
  have c3 : (rd M3 133 3).toInt = 0 := p.2
  exact sb_loop 5000 0 M3 p.1 (by decide) (by rw [c3]; decide) (by decide)
theorem isC_mod (y : UInt32) : isC (y % 65536).toInt32 = true := by
  have h1 : (y % 65536).toNat < 65536 := by rw [UInt32.toNat_mod]; exact Nat.mod_lt _ (by decide)
  have e : (y % 65536).toUInt16.toUInt32 = y % 65536 := by
    apply UInt32.toNat_inj.mp
    rw [UInt16.toNat_toUInt32, UInt32.toNat_toUInt16]
    exact Nat.mod_eq_of_lt h1
  unfold isC
  exact decide_eq_true (congrArg Value.int (congrArg UInt32.toInt32 e))
theorem sX6_written (h : SBi s M) : Sf (mX6_written 0 x1 M) (fun q => q.1 = M ∧ ∀ e, q.2 = Sum.inr e → e = 1) := by
  unfold mX6_written mX6_written_b15
  have b := sb_n h.1
  have th : Sf (some ((M, Sum.inr 1) : Mem × (Int32 ⊕ Nat))) (fun q => q.1 = M ∧ ∀ e, q.2 = Sum.inr e → e = 1) := Sf.ok ⟨rfl, fun e he => (Sum.inr.inj he).symm⟩
  refine Sf.i (fun _ => th) (fun c0 => ?_)
  have c0 := i_nlt c0
  rw [show ((0 : Int32)).toInt = 0 from rfl] at c0
  refine Sf.c (Q := fun r => r = rd M 133 3) ⟨_, rfl, rfl⟩ (fun r er => ?_)
  subst er
  refine Sf.i (fun c => ?_) (fun _ => th)
  have c := i_lt.mp c
  have hb70 : sbn (rd M 133 0) ≤ 70 := by unfold sbn; split <;> first | decide | (split <;> decide)
  have hN : (Int32.ofNat (sbn (rd M 133 0))).toInt = (sbn (rd M 133 0) : Int) := toInt_of rfl (by omega)
  have h2 := h.2
  have hl : Sf (mJ4_charAt_5068e x1 M) (fun _ => True) := by
    unfold mJ4_charAt_5068e
    refine Sf.c (Q := fun r => isC r = true) ?_ (fun r hr => Sf.k hr (Sf.ok trivial))
    unfold mJ5_charAt_5068e
    refine Sf.b (fun x2 e2 => Sf.b (fun x4 e4 => ?_))
    rw [sb_c0 h.1] at e2
    subst e2
    rw [sh_r] at e4
    have t4 : x1.toInt < x4.toInt := by rw [e4, i_min, hN]; omega
    refine Sf.c (Q := fun _ => True) ?_ (fun _ _ => Sf.i (fun _ => Sf.k (ok_in (by omega) (by omega)) (Sf.k (isC_mod _) (Sf.ok (isC_mod _)))) (fun c => absurd rfl c))
    unfold mJ0_checkIndex_df160 mJ3_checkIndex_8e157
    refine Sf.c (Q := fun _ => True) (Sf.i (fun c => ?_) (fun _ => Sf.i (fun _ => Sf.ok trivial) (fun c => absurd (i_lt.mpr t4) c))) (fun _ _ => Sf.ok trivial)
    have c := i_lt.mp c
    rw [show ((0 : Int32)).toInt = 0 from rfl] at c
    exfalso; omega
  have hl2 : Sf (mJ4_charAt_5068e x1 M) (fun r => isC r = true) := by
    obtain ⟨y, hy, _⟩ := hl
    refine ⟨y, hy, ?_⟩
    unfold mJ4_charAt_5068e at hy
    obtain ⟨r, _, h9⟩ := cap_s hy
    obtain ⟨h8, h7⟩ := chk_s h9
    cases h7; exact h8
  exact Sf.c hl2 (fun r hr => Sf.k hr (Sf.ok ⟨rfl, fun e he => by cases he⟩))
theorem sL_written {k1 : Nat} (h : SBi s M) : Sf (mL_written 0 k1 x1 M) (fun q => SBi s q.1 ∧ (∀ k j, rd q.1 k j = rd M k j) ∧ ∃ r, q.2 = Sum.inl r) := by
  unfold mL_written
  refine Sf.t (sX6_written h) (fun M3 r2 p => ?_) (fun M3 e4 p => ?_)
  · have e : M3 = M := p.1
    subst e
    exact Sf.k (by decide) (Sf.b (fun M7 e => Sf.ok ⟨by rw [e]; exact ⟨h.1.pl, h.2⟩, fun k j => by rw [e]; rfl, _, rfl⟩))
  · have e : M3 = M := p.1
    subst e
    exact Sf.i (fun _ => Sf.ok ⟨h, fun _ _ => rfl, _, rfl⟩) (fun c => absurd (p.2 e4 rfl) c)
/-! feed -/
theorem sX6_append_l : ∀ (n : Nat) (x2 : Int32) (M : Mem) (m : Nat) (_ : OKb (fT (sB s)) M) (_ : x2.toInt = 8 * (m : Int) - 8 ∧ m ≤ 4) (_ : (rd M 0 1).toInt + m ≤ 600) (_ : m < n), Sf (mX6_append_l3 0 n x1 x2 M) (fun q => OKb (fT (sB s)) q.1 ∧ (rd q.1 0 1).toInt = (rd M 0 1).toInt + m) := by
  intro n
  induction n with
  | zero => intro x2 M m h h2 hb hmu; exfalso; omega
  | succ n IH =>
    intro x2 M m h h2 hb hmu
    show Sf (mX6_append_b3 0 (mX6_append_l3 0 n) x1 x2 M) _
    unfold mX6_append_b3
    have b : (0 : Int) ≤ (rd M 0 1).toInt ∧ (rd M 0 1).toInt ≤ 600 := h.at rfl
    refine Sf.i (fun c => Sf.ok ⟨h, ?_⟩) (fun c => Sf.i (fun c6 => ?_) (fun _ => ?_))
    · have c := i_lt.mp c
      rw [show ((0 : Int32)).toInt = 0 from rfl] at c
      show (rd M 0 1).toInt = _
      omega
    · have c := i_nlt c
      rw [show ((0 : Int32)).toInt = 0 from rfl] at c
      have c6 := i_le.mp c6
      rw [show ((600 : Int32)).toInt = 600 from rfl] at c6
      exfalso; omega
    · have c := i_nlt c
      rw [show ((0 : Int32)).toInt = 0 from rfl] at c
      refine Sf.k (ok_in (by omega) (by omega)) (Sf.b (fun M6 e6 => Sf.b (fun M7 e7 => ?_)))
      have h6 : OKb (fT (sB s)) M6 := by rw [e6]; exact h.put (b := (-128, 127)) rfl nar_byte
      have f6 : rd M6 0 1 = rd M 0 1 := by rw [e6]; exact rd_wk (by decide)
      have t7 : (rd M6 0 1 + 1).toInt = (rd M 0 1).toInt + 1 := by rw [f6]; exact i_add (by rw [show ((1 : Int32)).toInt = 1 from rfl]; omega) (by rw [show ((1 : Int32)).toInt = 1 from rfl]; omega)
      have h7 : OKb (fT (sB s)) M7 := by rw [e7]; exact h6.put (b := (0, 600)) rfl (by rw [t7]; omega)
      have c7 : (rd M7 0 1).toInt = (rd M 0 1).toInt + 1 := by rw [e7, rd_we, t7]
      unfold mX6_append_b40
      refine Sf.b (fun y ey => ?_)
      have ty : y.toInt = x2.toInt - 8 := by rw [ey, i_add (by rw [show ((-8 : Int32)).toInt = -8 from rfl]; omega) (by rw [show ((-8 : Int32)).toInt = -8 from rfl]; omega)]; rfl
      refine Sf.mono (IH y M7 (m - 1) h7 ⟨by omega, by omega⟩ (by omega) (by omega)) (fun q p => ⟨p.1, ?_⟩)
      have := p.2
      omega
theorem sX6_append_ex (h : OKb (fT (sB s)) M) (hb : (rd M 0 1).toInt + 4 ≤ 600) : Sf (mX6_append 0 x1 M) (fun q => OKb (fT (sB s)) q.1 ∧ (rd q.1 0 1).toInt = (rd M 0 1).toInt + 4) := by
  unfold mX6_append
  exact sX6_append_l 5000 24 M 4 h (by decide) hb (by decide)
theorem sX6_feed_ex {x2 x3 x4 x5 : Int32} (h : OKb (fT (sB s)) M) : Sf (mX6_feed 0 x1 x2 x3 x4 x5 M) (fun q => OKb (fT (sB s)) q.1 ∧ ((600 < (rd M 0 1).toInt + 20 ∧ q.2.toInt = -2 ∧ (rd q.1 0 1).toInt = (rd M 0 1).toInt) ∨ ((rd M 0 1).toInt + 20 ≤ 600 ∧ q.2.toInt = (rd M 0 1).toInt + 20 ∧ (rd q.1 0 1).toInt = (rd M 0 1).toInt + 20))) := by
  unfold mX6_feed
  have b : (0 : Int) ≤ (rd M 0 1).toInt ∧ (rd M 0 1).toInt ≤ 600 := h.at rfl
  have n20 : ((20 : Int32)).toInt = 20 := rfl
  have n600 : ((600 : Int32)).toInt = 600 := rfl
  have e := i_add (a := rd M 0 1) (b := 20) (by omega) (by omega)
  refine Sf.i (fun c => ?_) (fun c => Sf.ok ⟨h, Or.inl ⟨?_, rfl, rfl⟩⟩)
  · have c := i_le.mp c
    refine Sf.m (sX6_append_ex h (by omega)) (fun M4 _ p4 => ?_)
    have c4 : (rd M4 0 1).toInt = (rd M 0 1).toInt + 4 := p4.2
    refine Sf.m (sX6_append_ex p4.1 (by show (rd M4 0 1).toInt + 4 ≤ 600; omega)) (fun M7 _ p7 => ?_)
    have c7 : (rd M7 0 1).toInt = (rd M4 0 1).toInt + 4 := p7.2
    refine Sf.m (sX6_append_ex p7.1 (by show (rd M7 0 1).toInt + 4 ≤ 600; omega)) (fun M10 _ p10 => ?_)
    have c10 : (rd M10 0 1).toInt = (rd M7 0 1).toInt + 4 := p10.2
    refine Sf.m (sX6_append_ex p10.1 (by show (rd M10 0 1).toInt + 4 ≤ 600; omega)) (fun M13 _ p13 => ?_)
    have c13 : (rd M13 0 1).toInt = (rd M10 0 1).toInt + 4 := p13.2
    refine Sf.m (sX6_append_ex p13.1 (by show (rd M13 0 1).toInt + 4 ≤ 600; omega)) (fun M16 _ p16 => ?_)
    have c16 : (rd M16 0 1).toInt = (rd M13 0 1).toInt + 4 := p16.2
    exact Sf.ok ⟨p16.1, Or.inr ⟨by omega, by show (rd M16 0 1).toInt = _; omega, by show (rd M16 0 1).toInt = _; omega⟩⟩
  · have c := i_nle c
    omega
/-! load -/
abbrev sZ (s : Nat → Int × Int) : Nat → Int × Int := fun i => if i = 1 then (0, 0) else s i
theorem sX6_load_ex (h : OKb (fT (sB s)) M) : Sf (mX6_load 0 x1 M) (fun q => (q.1 = M ∧ q.2 = Sum.inr 0 ∧ (x1.toInt < 0 ∨ (rd M 0 1).toInt < x1.toInt)) ∨ (OKb (fT (sZ s)) q.1 ∧ (∃ r, q.2 = Sum.inl r) ∧ 0 ≤ x1.toInt ∧ x1.toInt ≤ (rd M 0 1).toInt)) := by
  unfold mX6_load mX6_load_b12
  have b : (0 : Int) ≤ (rd M 0 1).toInt ∧ (rd M 0 1).toInt ≤ 600 := h.at rfl
  refine Sf.i (fun c => Sf.ok (Or.inl ⟨rfl, rfl, Or.inl ?_⟩)) (fun c => Sf.i (fun c2 => Sf.b (fun M3 e3 => ?_)) (fun c2 => Sf.ok (Or.inl ⟨rfl, rfl, Or.inr (i_nle c2)⟩)))
  · have c := i_lt.mp c
    rw [show ((0 : Int32)).toInt = 0 from rfl] at c
    exact c
  · have c := i_nlt c
    rw [show ((0 : Int32)).toInt = 0 from rfl] at c
    have c2 := i_le.mp c2
    have h3 : OKb (fT (sZ s)) M3 := by
      rw [e3]
      intro k j
      by_cases e : k = 0 ∧ j = 1
      · obtain ⟨rfl, rfl⟩ := e
        rw [rd_we]
        show (0 : Int) ≤ ((0 : Int32)).toInt ∧ ((0 : Int32)).toInt ≤ 0
        decide
      · have e1 : rd (wr M 0 1 0) k j = rd M k j := by
          by_cases k0 : k = 0
          · subst k0; exact rd_wj (by omega)
          · exact rd_wk k0
        rw [e1]
        have hk := h k j
        have e2 : bxc (fT (sZ s)) k j = bxc (fT (sB s)) k j := by
          unfold bxc
          by_cases k0 : k = 0
          · subst k0
            rw [if_pos rfl, if_pos rfl, if_neg (by omega), if_neg (by omega)]
          · simp only [k0, if_false]
            rfl
        rw [e2]; exact hk
    refine Sf.m (sX4_readText isP_13 h3 ⟨c, by omega⟩) (fun M7 r6 p7 => Sf.i (fun _ => Sf.ok (Or.inr ⟨p7.1, ⟨_, rfl⟩, c, c2⟩)) (fun _ => ?_))
    refine Sf.m (sX1_copyFrom isP_5 isP_13 p7.1) (fun M11 _ p11 => ?_)
    refine Sf.m (sX0_forgetAll p11.1) (fun M14 _ p14 => ?_)
    exact Sf.c (sX1_bendCount isP_5 p14) (fun r _ => Sf.ok (Or.inr ⟨p14, ⟨_, rfl⟩, c, c2⟩))
theorem sL_load_ex {k1 : Nat} (h : OKb (fT (sB s)) M) : Sf (mL_load 0 k1 x1 M) (fun q => (∃ r, q.2 = Sum.inl r) ∧ ((OKb (fT (sB s)) q.1 ∧ (rd q.1 0 1).toInt = (rd M 0 1).toInt ∧ rd q.1 133 0 = rd M 133 0 ∧ rd q.1 133 3 = rd M 133 3 ∧ (x1.toInt < 0 ∨ (rd M 0 1).toInt < x1.toInt)) ∨ (OKb (fT (sZ s)) q.1 ∧ 0 ≤ x1.toInt ∧ x1.toInt ≤ (rd M 0 1).toInt))) := by
  unfold mL_load
  refine Sf.t (sX6_load_ex h) (fun M3 r2 p => ?_) (fun M3 e4 p => ?_)
  · rcases p with ⟨_, p, _⟩ | ⟨p, _, c⟩
    · cases p
    · exact Sf.k (by decide) (Sf.b (fun M7 e => Sf.ok ⟨⟨_, rfl⟩, Or.inr ⟨by rw [e]; exact OKb.pl p, c⟩⟩))
  · rcases p with ⟨p1, p2, c⟩ | ⟨_, ⟨r, p⟩, _⟩
    · have e : M3 = M := p1
      subst e
      have e0 : e4 = 0 := Sum.inr.inj p2
      exact Sf.i (fun _ => Sf.ok ⟨⟨_, rfl⟩, Or.inl ⟨h, rfl, rfl, rfl, c⟩⟩) (fun q => absurd e0 q)
    · cases p
end IO
