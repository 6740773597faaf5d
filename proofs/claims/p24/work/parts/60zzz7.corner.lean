/-! corners: alike -/
section CO
variable {n m a b s c l e : Nat} {M M' N N' N0 : Mem} {x x1 x2 x3 x4 v : Int32}
theorem an_corner (h : SS M N) (hI : MI N) : R2 (mX6_corner 0 x1 x2 x3 x4 M) (mX7_corner 135 x1 x2 x3 x4 N) (XR nmb2) := by
  obtain ⟨m, m2, em, hR⟩ := row_at hI h.1
  have n8 := nb8 (pr_9 h.1)
  have hn : (rd N 136 0).toInt = (nb 5 M : Int) := h.1.pb.bn
  have lb : 0 ≤ (rd N 136 1).toInt ∧ (rd N 136 1).toInt ≤ 9 := h.1.lb
  obtain ⟨w, hw⟩ : ∃ w : Nat, (rd N 136 1).toInt = (w : Int) := ⟨(rd N 136 1).toInt.toNat, by omega⟩
  have e52 : rd (wr N 135 5 0) (135 + 1) ((52 : Int32)).toNatClampNeg = Int32.ofNat m := (rd_wk (by decide)).trans (h.1.ma.symm.trans em)
  have hT := h.th (v := 0)
  have badA : R2 (some (M, (Sum.inr 1 : Int32 ⊕ Nat))) (mX7_corner_b22 135 x1 x2 x3 x4 0 N) (XR nmb2) := by
    unfold mX7_corner_b22 mX7_corner_b44 mX7_corner_b45
    have g : ∀ y2 : Int32, R2 (some (M, (Sum.inr 1 : Int32 ⊕ Nat))) (cal (mX7_good_ 135 0 y2 N) (fun M11 r10 => ite2 (r10 = 0) (some (M11, (0 : Int32))) (chk (okb (52 : Int32) 86) (cal (mX7_laySheet 135 x1 x2 (rd M11 (135 + 1) ((52 : Int32)).toNatClampNeg) M11) (fun M16 _ => ite2 (x4 = 0) (chk (okb x3 9) (some (M16, (rd M16 (135 + 8) (x3).toNatClampNeg)))) (chk (okb x3 9) (some (M16, (rd M16 (135 + 9) (x3).toNatClampNeg))))))))) (XR nmb2) := fun y2 => (R2.bad2 (num := nmb2) (Or.inl ⟨rfl, rfl⟩) h).mono (fun p q z => z.1)
    exact R2.cr (Pc.self _) (fun r6 _ => R2.ir (fun _ => g 0) (fun _ => R2.cr (Pc.self _) (fun r21 _ => R2.ir (fun _ => g 0) (fun _ => g 1))))
  have badC : ¬ ((0 ≤ x2.toInt ∧ x2.toInt ≤ 1) ∧ (0 ≤ x4.toInt ∧ x4.toInt ≤ 1)) → R2 (some (M, (Sum.inr 0 : Int32 ⊕ Nat))) (mX7_corner_b22 135 x1 x2 x3 x4 1 N) (XR nmb2) := by
    intro hC
    unfold mX7_corner_b22 mX7_corner_b44 mX7_corner_b45
    have g : R2 (some (M, (Sum.inr 0 : Int32 ⊕ Nat))) (cal (mX7_good_ 135 1 0 N) (fun M11 r10 => ite2 (r10 = 0) (some (M11, (0 : Int32))) (chk (okb (52 : Int32) 86) (cal (mX7_laySheet 135 x1 x2 (rd M11 (135 + 1) ((52 : Int32)).toNatClampNeg) M11) (fun M16 _ => ite2 (x4 = 0) (chk (okb x3 9) (some (M16, (rd M16 (135 + 8) (x3).toNatClampNeg)))) (chk (okb x3 9) (some (M16, (rd M16 (135 + 9) (x3).toNatClampNeg))))))))) (XR nmb2) := (R2.bad2 (num := nmb2) (Or.inr ⟨by decide, rfl, rfl⟩) h).mono (fun p q z => z.1)
    refine R2.cr pc_isSide (fun r6 p6 => R2.ir (fun _ => g) (fun z6 => R2.cr (pc_btw (Int32.toInt_toInt64 _) (b := 0) (by decide) (c := 1) (by decide)) (fun r21 p21 => R2.ir (fun _ => g) (fun z21 => ?_))))
    rcases p6 with ⟨_, q6⟩ | ⟨q6, _⟩
    · rcases p21 with ⟨_, q21⟩ | ⟨q21, _⟩
      · exact absurd ⟨q6, q21⟩ hC
      · exact absurd q21 z21
    · exact absurd q6 z6
  unfold mX6_corner mX7_corner mX7_corner_b21
  refine R2.cr (pc_isBend hn n8) (fun r2 p2 => ?_)
  refine R2.xl (pc_reqBend h.1 (n := nb 5 M) hn) (fun M1 u q => ?_) (fun M1 u q => ?_)
  rotate_left
  · rcases q with ⟨e, _⟩ | ⟨e, q1⟩
    · exact absurd (congrArg Prod.snd e) (by intro z; cases z)
    cases e
    refine R2.ir (fun _ => badA) (fun z => ?_)
    rcases p2 with ⟨_, z2⟩ | ⟨z2, _⟩
    · exact absurd z2 q1
    · exact absurd z2 z
  rcases q with ⟨e, q1⟩ | ⟨e, _⟩
  rotate_left
  · exact absurd (congrArg Prod.snd e) (by intro z; cases z)
  cases e
  refine R2.ir (fun z => ?_) (fun _ => ?_)
  · rcases p2 with ⟨z2, _⟩ | ⟨_, z2⟩
    · rw [z2] at z; exact absurd z (by decide)
    · exact absurd q1 z2
  refine R2.cr (pc_isLeg hw (by omega)) (fun r25 p25 => ?_)
  refine R2.xl (pc_reqLeg h.1 (n := w) hw) (fun M1 u q => ?_) (fun M1 u q => ?_)
  rotate_left
  · rcases q with ⟨e, _⟩ | ⟨e, q2⟩
    · exact absurd (congrArg Prod.snd e) (by intro z; cases z)
    cases e
    refine R2.ir (fun _ => badA) (fun z => ?_)
    rcases p25 with ⟨_, z2⟩ | ⟨z2, _⟩
    · exact absurd z2 q2
    · exact absurd z2 z
  rcases q with ⟨e, q2⟩ | ⟨e, _⟩
  rotate_left
  · exact absurd (congrArg Prod.snd e) (by intro z; cases z)
  cases e
  refine R2.ir (fun z => ?_) (fun _ => ?_)
  · rcases p25 with ⟨z2, _⟩ | ⟨_, z2⟩
    · rw [z2] at z; exact absurd z (by decide)
    · exact absurd q2 z2
  refine R2.xl (pc_reqChoice (n := 1) rfl) (fun M1 u q => ?_) (fun M1 u q => ?_)
  rotate_left
  · rcases q with ⟨e, _⟩ | ⟨e, q3⟩
    · exact absurd (congrArg Prod.snd e) (by intro z; cases z)
    cases e
    exact badC (fun y => q3 y.1)
  rcases q with ⟨e, q3⟩ | ⟨e, _⟩
  rotate_left
  · exact absurd (congrArg Prod.snd e) (by intro z; cases z)
  cases e
  refine R2.xl (pc_reqChoice (n := 1) rfl) (fun M1 u q => ?_) (fun M1 u q => ?_)
  rotate_left
  · rcases q with ⟨e, _⟩ | ⟨e, q4⟩
    · exact absurd (congrArg Prod.snd e) (by intro z; cases z)
    cases e
    exact badC (fun y => q4 y.2)
  rcases q with ⟨e, q4⟩ | ⟨e, _⟩
  rotate_left
  · exact absurd (congrArg Prod.snd e) (by intro z; cases z)
  cases e
  unfold mX7_corner_b22 mX7_corner_b44 mX7_corner_b45
  refine R2.cr pc_isSide (fun r6 p6 => R2.ir (fun z => ?_) (fun _ => R2.cr (pc_btw (Int32.toInt_toInt64 _) (b := 0) (by decide) (c := 1) (by decide)) (fun r21 p21 => R2.ir (fun z => ?_) (fun _ => R2.ok2 (by decide) (by decide) (R2.kr (fun _ => ?_))))))
  · rcases p6 with ⟨z2, _⟩ | ⟨_, z2⟩
    · rw [z2] at z; exact absurd z (by decide)
    · exact absurd q3 z2
  · rcases p21 with ⟨z2, _⟩ | ⟨_, z2⟩
    · rw [z2] at z; exact absurd z (by decide)
    · exact absurd q4 z2
  obtain ⟨b, hb, eb⟩ : ∃ b : Nat, b < nb 5 M ∧ x1 = Int32.ofNat b := ⟨x1.toInt.toNat, by omega, o_of q1.1⟩
  obtain ⟨s, hs, es⟩ : ∃ s : Nat, s < 2 ∧ x2 = Int32.ofNat s := ⟨x2.toInt.toNat, by omega, o_of q3.1⟩
  obtain ⟨l, hl, el⟩ : ∃ l : Nat, l < w ∧ x3 = Int32.ofNat l := ⟨x3.toInt.toNat, by omega, o_of q2.1⟩
  subst eb
  subst es
  subst el
  rw [f_code b (by omega) s hs, em, e52]
  refine R2.mm (sheet_R (k := 103) (by omega) hT.1 ((congrArg Int32.toInt (rd_wk (by decide))).trans hn) hb hs m2) (fun M7 _ N9 _ p => ?_)
  obtain ⟨p1, p2, p3⟩ := p
  have p3 : KS SRl (wr N 135 5 0) N9 := p3
  have e1 : rd N9 136 1 = rd N 136 1 := (p3 136 1 (by unfold SRl; omega)).trans (rd_wk (by decide))
  have e5 : rd N9 135 5 = 0 := (p3 135 5 (by unfold SRl; omega)).trans rd_we
  have hg := p1.1 l (by show (l : Int) < (rd N9 136 1).toInt; rw [e1, hw]; omega)
  rw [c_of (by omega)]
  exact R2.il (fun z => R2.ir (fun _ => R2.kl (fun _ => R2.kr (fun _ => R2.ok (XR.inl e5 hg.1)))) (fun z2 => absurd z z2)) (fun z => R2.ir (fun z2 => absurd z2 z) (fun _ => R2.kl (fun _ => R2.kr (fun _ => R2.ok (XR.inl e5 hg.2.1)))))
end CO
