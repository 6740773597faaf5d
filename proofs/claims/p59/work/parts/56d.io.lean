/-! write, written, feed, load -/
theorem OKb.sub {b : Bool} {g : Nat → Int × Int} {s s' : Nat → Int × Int} {M : Mem} (h : OKb (b, g, s) M) (hs : ∀ i, (s' i).1 ≤ (s i).1 ∧ (s i).2 ≤ (s' i).2) : OKb (b, g, s') M := by
  intro k j
  have hk := h k j
  by_cases e : (k = 0 ∧ j = 1) ∨ (k = 133 ∧ (j = 0 ∨ j = 3))
  · rcases e with ⟨rfl, rfl⟩ | ⟨rfl, rfl | rfl⟩
    · have h1 : (s 1).1 ≤ (rd M 0 1).toInt ∧ (rd M 0 1).toInt ≤ (s 1).2 := hk
      show (s' 1).1 ≤ _ ∧ _ ≤ (s' 1).2
      have := hs 1; omega
    · have h1 : (s 0).1 ≤ (rd M 133 0).toInt ∧ (rd M 133 0).toInt ≤ (s 0).2 := hk
      show (s' 0).1 ≤ _ ∧ _ ≤ (s' 0).2
      have := hs 0; omega
    · have h1 : (s 2).1 ≤ (rd M 133 3).toInt ∧ (rd M 133 3).toInt ≤ (s 2).2 := hk
      show (s' 2).1 ≤ _ ∧ _ ≤ (s' 2).2
      have := hs 2; omega
  · have e2 : bxc (b, g, s') k j = bxc (b, g, s) k j := by
      unfold bxc
      by_cases k0 : k = 0
      · subst k0
        rw [if_pos rfl, if_pos rfl, if_neg (by omega), if_neg (by omega)]
      · by_cases k1 : k = 133
        · subst k1
          have j0 : ¬ j = 0 := by omega
          have j3 : ¬ j = 3 := by omega
          simp only [k0, j0, j3, if_false]
        · simp only [k0, k1, if_false]
    rw [e2]; exact hk
section IO
variable {s : Nat → Int × Int} {M : Mem} {x1 : Int32}
theorem isC_mod (y : UInt32) : isC (y % 65536).toInt32 = true := by
  have h1 : (y % 65536).toNat < 65536 := by rw [UInt32.toNat_mod]; exact Nat.mod_lt _ (by decide)
  have e : (y % 65536).toUInt16.toUInt32 = y % 65536 := by
    apply UInt32.toNat_inj.mp
    rw [UInt16.toNat_toUInt32, UInt32.toNat_toUInt16]
    exact Nat.mod_eq_of_lt h1
  unfold isC
  exact decide_eq_true (congrArg Value.int (congrArg UInt32.toInt32 e))
/-! feed -/
theorem sX6_append_l : ∀ (n : Nat) (x2 : Int32) (M : Mem) (m : Nat) (_ : OKb (fT (sB s)) M) (_ : x2.toInt = 8 * (m : Int) - 8 ∧ m ≤ 4) (_ : (rd M 0 1).toInt + m ≤ 600) (_ : m < n), Sf (mX6_append_l3 0 n x1 x2 M) (fun q => OKb (fT (sB s)) q.1 ∧ (rd q.1 0 1).toInt = (rd M 0 1).toInt + m) := by
  intro n
  induction n with
  | zero => intro x2 M m h h2 hb hmu; exfalso; omega
  | succ n IH =>
    intro x2 M m h h2 hb hmu
    show Sf (mX6_append_b3 0 (mX6_append_l3 0 n) x1 x2 M) _
    unfold mX6_append_b3
    have b : (0 : Int) ≤ (rd M 0 1).toInt ∧ (rd M 0 1).toInt ≤ 600 := h.at rfl
    refine Sf.i (fun c => Sf.ok ⟨h, ?_⟩) (fun c => Sf.i (fun c6 => ?_) (fun _ => ?_))
    · have c := i_lt.mp c
      rw [show ((0 : Int32)).toInt = 0 from rfl] at c
      show (rd M 0 1).toInt = _
      omega
    · have c := i_nlt c
      rw [show ((0 : Int32)).toInt = 0 from rfl] at c
      have c6 := i_le.mp c6
      rw [show ((600 : Int32)).toInt = 600 from rfl] at c6
      exfalso; omega
    · have c := i_nlt c
      rw [show ((0 : Int32)).toInt = 0 from rfl] at c
      refine Sf.k (ok_in (by omega) (by omega)) (Sf.b (fun M6 e6 => Sf.b (fun M7 e7 => ?_)))
      have h6 : OKb (fT (sB s)) M6 := by rw [e6]; exact h.put (b := (-128, 127)) rfl nar_byte
      have f6 : rd M6 0 1 = rd M 0 1 := by rw [e6]; exact rd_wk (by decide)
      have t7 : (rd M6 0 1 + 1).toInt = (rd M 0 1).toInt + 1 := by rw [f6]; exact i_add (by rw [show ((1 : Int32)).toInt = 1 from rfl]; omega) (by rw [show ((1 : Int32)).toInt = 1 from rfl]; omega)
      have h7 : OKb (fT (sB s)) M7 := by rw [e7]; exact h6.put (b := (0, 600)) rfl (by rw [t7]; omega)
      have c7 : (rd M7 0 1).toInt = (rd M 0 1).toInt + 1 := by rw [e7, rd_we, t7]
      unfold mX6_append_b40
      refine Sf.b (fun y ey => ?_)
      have ty : y.toInt = x2.toInt - 8 := by rw [ey, i_add (by rw [show ((-8 : Int32)).toInt = -8 from rfl]; omega) (by rw [show ((-8 : Int32)).toInt = -8 from rfl]; omega)]; rfl
      refine Sf.mono (IH y M7 (m - 1) h7 ⟨by omega, by omega⟩ (by omega) (by omega)) (fun q p => ⟨p.1, ?_⟩)
      have := p.2
      omega
theorem sX6_append_ex (h : OKb (fT (sB s)) M) (hb : (rd M 0 1).toInt + 4 ≤ 600) : Sf (mX6_append 0 x1 M) (fun q => OKb (fT (sB s)) q.1 ∧ (rd q.1 0 1).toInt = (rd M 0 1).toInt + 4) := by
  unfold mX6_append
  exact sX6_append_l 5000 24 M 4 h (by decide) hb (by decide)
theorem sX6_feed_ex {x2 x3 x4 x5 : Int32} (h : OKb (fT (sB s)) M) : Sf (mX6_feed 0 x1 x2 x3 x4 x5 M) (fun q => OKb (fT (sB s)) q.1 ∧ ((600 < (rd M 0 1).toInt + 20 ∧ q.2.toInt = -2 ∧ (rd q.1 0 1).toInt = (rd M 0 1).toInt) ∨ ((rd M 0 1).toInt + 20 ≤ 600 ∧ q.2.toInt = (rd M 0 1).toInt + 20 ∧ (rd q.1 0 1).toInt = (rd M 0 1).toInt + 20))) := by
  unfold mX6_feed
  have b : (0 : Int) ≤ (rd M 0 1).toInt ∧ (rd M 0 1).toInt ≤ 600 := h.at rfl
  have n20 : ((20 : Int32)).toInt = 20 := rfl
  have n600 : ((600 : Int32)).toInt = 600 := rfl
  have e := i_add (a := rd M 0 1) (b := 20) (by omega) (by omega)
  refine Sf.i (fun c => ?_) (fun c => Sf.ok ⟨h, Or.inl ⟨?_, rfl, rfl⟩⟩)
  · have c := i_le.mp c
    refine Sf.m (sX6_append_ex h (by omega)) (fun M4 _ p4 => ?_)
    have c4 : (rd M4 0 1).toInt = (rd M 0 1).toInt + 4 := p4.2
    refine Sf.m (sX6_append_ex p4.1 (by show (rd M4 0 1).toInt + 4 ≤ 600; omega)) (fun M7 _ p7 => ?_)
    have c7 : (rd M7 0 1).toInt = (rd M4 0 1).toInt + 4 := p7.2
    refine Sf.m (sX6_append_ex p7.1 (by show (rd M7 0 1).toInt + 4 ≤ 600; omega)) (fun M10 _ p10 => ?_)
    have c10 : (rd M10 0 1).toInt = (rd M7 0 1).toInt + 4 := p10.2
    refine Sf.m (sX6_append_ex p10.1 (by show (rd M10 0 1).toInt + 4 ≤ 600; omega)) (fun M13 _ p13 => ?_)
    have c13 : (rd M13 0 1).toInt = (rd M10 0 1).toInt + 4 := p13.2
    refine Sf.m (sX6_append_ex p13.1 (by show (rd M13 0 1).toInt + 4 ≤ 600; omega)) (fun M16 _ p16 => ?_)
    have c16 : (rd M16 0 1).toInt = (rd M13 0 1).toInt + 4 := p16.2
    exact Sf.ok ⟨p16.1, Or.inr ⟨by omega, by show (rd M16 0 1).toInt = _; omega, by show (rd M16 0 1).toInt = _; omega⟩⟩
  · have c := i_nle c
    omega
/-! load -/
abbrev sZ (s : Nat → Int × Int) : Nat → Int × Int := fun i => if i = 1 then (0, 0) else s i
theorem sX6_load_ex (h : OKb (fT (sB s)) M) : Sf (mX6_load 0 x1 M) (fun q => (q.1 = M ∧ q.2 = Sum.inr 0 ∧ (x1.toInt < 0 ∨ (rd M 0 1).toInt < x1.toInt)) ∨ (OKb (fT (sZ s)) q.1 ∧ (∃ r, q.2 = Sum.inl r) ∧ 0 ≤ x1.toInt ∧ x1.toInt ≤ (rd M 0 1).toInt)) := by
  unfold mX6_load mX6_load_b12
  have b : (0 : Int) ≤ (rd M 0 1).toInt ∧ (rd M 0 1).toInt ≤ 600 := h.at rfl
  refine Sf.i (fun c => Sf.ok (Or.inl ⟨rfl, rfl, Or.inl ?_⟩)) (fun c => Sf.i (fun c2 => Sf.b (fun M3 e3 => ?_)) (fun c2 => Sf.ok (Or.inl ⟨rfl, rfl, Or.inr (i_nle c2)⟩)))
  · have c := i_lt.mp c
    rw [show ((0 : Int32)).toInt = 0 from rfl] at c
    exact c
  · have c := i_nlt c
    rw [show ((0 : Int32)).toInt = 0 from rfl] at c
    have c2 := i_le.mp c2
    have h3 : OKb (fT (sZ s)) M3 := by
      rw [e3]
      intro k j
      by_cases e : k = 0 ∧ j = 1
      · obtain ⟨rfl, rfl⟩ := e
        rw [rd_we]
        show (0 : Int) ≤ ((0 : Int32)).toInt ∧ ((0 : Int32)).toInt ≤ 0
        decide
      · have e1 : rd (wr M 0 1 0) k j = rd M k j := by
          by_cases k0 : k = 0
          · subst k0; exact rd_wj (by omega)
          · exact rd_wk k0
        rw [e1]
        have hk := h k j
        have e2 : bxc (fT (sZ s)) k j = bxc (fT (sB s)) k j := by
          unfold bxc
          by_cases k0 : k = 0
          · subst k0
            rw [if_pos rfl, if_pos rfl, if_neg (by omega), if_neg (by omega)]
          · simp only [k0, if_false]
            rfl
        rw [e2]; exact hk
    refine Sf.m (sX4_readText isP_13 h3 ⟨c, by omega⟩) (fun M7 r6 p7 => Sf.i (fun _ => Sf.ok (Or.inr ⟨p7.1, ⟨_, rfl⟩, c, c2⟩)) (fun _ => ?_))
    refine Sf.m (sX1_copyFrom isP_5 isP_13 p7.1) (fun M11 _ p11 => ?_)
    refine Sf.m (sX0_forgetAll p11.1) (fun M14 _ p14 => ?_)
    exact Sf.c (sX1_bendCount isP_5 p14) (fun r _ => Sf.ok (Or.inr ⟨p14, ⟨_, rfl⟩, c, c2⟩))
end IO

