/-! the edits: alike -/
section ED
variable {g : Gm} {k n m a b s c l e : Nat} {M M' N N' N0 : Mem} {x x1 x2 x3 y1 y2 y3 v : Int32} {f f' : Nat → Int32} {τ : Type} {z : τ}
theorem RI.flat (h : f 53 = 0) : RI f := by
  refine ⟨by rw [h]; decide, fun n _ j hj => ?_, fun j m h53 h8 _ _ => ?_⟩
  · rw [h, show ((0 : Int32)).toInt = 0 from rfl] at hj; omega
  · rw [h] at h53
    have := congrArg Int32.toInt h53
    rw [show ((0 : Int32)).toInt = 0 from rfl, t_of (by omega)] at this; omega
theorem RI.upd (h : RI f) (e : ∀ i, i < 19 ∨ 52 ≤ i → f' i = f i) : RI f' := by
  refine ⟨by rw [e 53 (by omega)]; exact h.1, fun n hn j hj => ?_, fun j m h53 h8 h52 hm => ?_⟩
  · rw [e 0 (by omega)] at hn
    rw [e 53 (by omega)] at hj
    rw [e _ (by omega), e _ (by omega)]; exact h.2.1 n hn j hj
  · rw [e _ (by omega)] at h53 h52
    obtain ⟨l, h1, h2, h3, h4, h5⟩ := h.2.2 j m h53 h8 h52 hm
    refine ⟨l, h1, ?_, ?_, h4, ?_⟩
    · rw [e _ (by omega)]; exact h2
    · rw [e _ (by omega)]; exact h3
    · rw [e _ (by omega)]
      exact fun N hN => h5 N (fun j hj => (hN j hj).trans (e j (by omega)))
theorem R2.bad3 {β : Type} {w : Nat} {zz : β} {K' : Mem → Option (Mem × β)} (hy : y1 = 0 ∧ w = 1 ∨ ¬ y1 = 0 ∧ y2 = 0 ∧ w = 0 ∨ ¬ y1 = 0 ∧ ¬ y2 = 0 ∧ y3 = 0 ∧ w = 2) (hS : SS M N) : R2 (some (M, (Sum.inr w : β ⊕ Nat))) (cal (mX7_good__ 135 y1 y2 y3 N) (fun M10 r9 => ite2 (r9 = 0) (some (M10, zz)) (K' M10))) (fun p q => XR nmb3 p q ∧ SS p.1 q.1) := by
  refine R2.mr pc_good3 (fun N9 r8 p8 => ?_)
  rcases p8 with ⟨z, e8⟩ | ⟨z, z2, e8⟩ | ⟨z, z2, z3, e8⟩ | ⟨z, z2, z3, e8⟩
  · cases e8
    refine R2.ir (fun _ => R2.ok ⟨XR.inr ?_, hS.th⟩) (fun z => absurd rfl z)
    rcases hy with ⟨_, e⟩ | ⟨q, _⟩ | ⟨q, _⟩
    · rw [e]; exact rd_we
    · exact absurd z q
    · exact absurd z q
  · cases e8
    refine R2.ir (fun _ => R2.ok ⟨XR.inr ?_, hS.th⟩) (fun z => absurd rfl z)
    rcases hy with ⟨q, e⟩ | ⟨_, _, e⟩ | ⟨_, q, _⟩
    · exact absurd q z
    · rw [e]; exact rd_we
    · exact absurd z2 q
  · cases e8
    refine R2.ir (fun _ => R2.ok ⟨XR.inr ?_, hS.th⟩) (fun z => absurd rfl z)
    rcases hy with ⟨q, e⟩ | ⟨_, q, e⟩ | ⟨_, _, _, e⟩
    · exact absurd q z
    · exact absurd q z2
    · rw [e]; exact rd_we
  · rcases hy with ⟨q, e⟩ | ⟨_, q, e⟩ | ⟨_, _, q, e⟩
    · exact absurd q z
    · exact absurd q z2
    · exact absurd q z3
theorem R2.ok3 {α β : Type} {x : Option α} {zz : β} {K' : Mem → Option (Mem × β)} {R : α → Mem × β → Prop} (h1 : ¬ y1 = 0) (h2 : ¬ y2 = 0) (h3 : ¬ y3 = 0) (h : R2 x (K' (wr N 135 5 0)) R) : R2 x (cal (mX7_good__ 135 y1 y2 y3 N) (fun M10 r9 => ite2 (r9 = 0) (some (M10, zz)) (K' M10))) R := by
  refine R2.mr pc_good3 (fun N9 r8 p8 => ?_)
  rcases p8 with ⟨z, e8⟩ | ⟨z, z2, e8⟩ | ⟨z, z2, z3, e8⟩ | ⟨z, z2, z3, e8⟩
  · exact absurd z h1
  · exact absurd z2 h2
  · exact absurd z3 h3
  · cases e8
    exact R2.ir (fun z => absurd z (by decide)) (fun _ => h)
theorem R2.bad2 {β : Type} {w : Nat} {zz : β} {num : Nat → Int32} {K' : Mem → Option (Mem × β)} (hy : y1 = 0 ∧ num w = 1 ∨ ¬ y1 = 0 ∧ y2 = 0 ∧ num w = 2) (hS : SS M N) : R2 (some (M, (Sum.inr w : β ⊕ Nat))) (cal (mX7_good_ 135 y1 y2 N) (fun M10 r9 => ite2 (r9 = 0) (some (M10, zz)) (K' M10))) (fun p q => XR num p q ∧ SS p.1 q.1) := by
  refine R2.mr pc_good2 (fun N9 r8 p8 => ?_)
  rcases p8 with ⟨z, e8⟩ | ⟨z, z2, e8⟩ | ⟨z, z2, e8⟩
  · cases e8
    refine R2.ir (fun _ => R2.ok ⟨XR.inr ?_, hS.th⟩) (fun z => absurd rfl z)
    rcases hy with ⟨_, e⟩ | ⟨q, _⟩
    · rw [e]; exact rd_we
    · exact absurd z q
  · cases e8
    refine R2.ir (fun _ => R2.ok ⟨XR.inr ?_, hS.th⟩) (fun z => absurd rfl z)
    rcases hy with ⟨q, e⟩ | ⟨_, _, e⟩
    · exact absurd q z
    · rw [e]; exact rd_we
  · rcases hy with ⟨q, e⟩ | ⟨_, q, e⟩
    · exact absurd q z
    · exact absurd q z2
theorem R2.ok2 {α β : Type} {x : Option α} {zz : β} {K' : Mem → Option (Mem × β)} {R : α → Mem × β → Prop} (h1 : ¬ y1 = 0) (h2 : ¬ y2 = 0) (h : R2 x (K' (wr N 135 5 0)) R) : R2 x (cal (mX7_good_ 135 y1 y2 N) (fun M10 r9 => ite2 (r9 = 0) (some (M10, zz)) (K' M10))) R := by
  refine R2.mr pc_good2 (fun N9 r8 p8 => ?_)
  rcases p8 with ⟨z, e8⟩ | ⟨z, z2, e8⟩ | ⟨z, z2, e8⟩
  · exact absurd z h1
  · exact absurd z2 h2
  · cases e8
    exact R2.ir (fun z => absurd z (by decide)) (fun _ => h)
theorem R2.bad1 {β : Type} {w : Nat} {zz : β} {num : Nat → Int32} {K' : Mem → Option (Mem × β)} (hy : y1 = 0) (hw : num w = 1) (hS : SS M N) : R2 (some (M, (Sum.inr w : β ⊕ Nat))) (cal (mX7_good 135 y1 N) (fun M10 r9 => ite2 (r9 = 0) (some (M10, zz)) (K' M10))) (fun p q => XR num p q ∧ SS p.1 q.1) := by
  refine R2.mr pc_good (fun N9 r8 p8 => ?_)
  rcases p8 with ⟨z, e8⟩ | ⟨z, e8⟩
  · cases e8
    refine R2.ir (fun _ => R2.ok ⟨XR.inr ?_, hS.th⟩) (fun q => absurd z q)
    rw [hw]; exact rd_we
  · exact absurd hy z
theorem R2.ok1 {α β : Type} {x : Option α} {zz : β} {K' : Mem → Option (Mem × β)} {R : α → Mem × β → Prop} (h1 : ¬ y1 = 0) (h : R2 x (K' (wr N 135 5 0)) R) : R2 x (cal (mX7_good 135 y1 N) (fun M10 r9 => ite2 (r9 = 0) (some (M10, zz)) (K' M10))) R := by
  refine R2.mr pc_good (fun N9 r8 p8 => ?_)
  rcases p8 with ⟨z, e8⟩ | ⟨z, e8⟩
  · exact absurd z h1
  · cases e8
    exact R2.ir (fun q => absurd q z) (fun _ => h)
/-- both remember, then both set -/
theorem R2.set {σ : Type} {R : Mem × (σ ⊕ Nat) → Mem × Int32 → Prop} {K : Mem → Option (Mem × (σ ⊕ Nat))} {i : Int32} (h : SS M N) (hk : ∀ M3 N3, SS M3 N3 → (∀ c j, ¬ SHc c j → rd M3 c j = rd M c j) → row 136 N3 = row 136 N → rd N3 135 5 = rd N 135 5 → R2 (K M3) (some (wr N3 136 i.toNatClampNeg v, rd N3 136 i.toNatClampNeg)) R) : R2 (cal (mX0_remember 21 5 M) (fun M3 _ => K M3)) (mX7_set 135 i v N) R := by
  unfold mX7_set
  refine R2.mm (rem_S h) (fun M3 _ N3 _ p => ?_)
  obtain ⟨p1, p2, p3⟩ := p
  have p2 : KS SHc M M3 := p2
  have p3 : KS SHi N N3 := p3
  refine R2.kr (fun _ => R2.br (fun x ex => R2.kr (fun _ => R2.br (fun M8 e8 => ?_))))
  have hh := hk M3 N3 p1 p2 (row_ks p3 (fun j z => by unfold SHi at z; omega)) (p3 135 5 (by unfold SHi; omega))
  rw [ex, e8]
  exact hh
theorem PV.p5 (h : PV M) (hk : KS (fun c _ => 5 ≤ c ∧ c < 13) M M') (hl : KL M M') : PV M' := h.ks hk (fun c j _ _ _ z => by omega) (fun j => hl.rl j)
theorem setLeg_RR (h : SS M N) : R2 (mX6_setLeg 0 x1 x2 M) (mX7_setLeg 135 x1 x2 N) (fun p q => XR nmb3 p q ∧ SS p.1 q.1) := by
  have hb := h.1.lb
  obtain ⟨n, hn⟩ : ∃ n : Nat, (rd N 136 1).toInt = (n : Int) := ⟨(rd N 136 1).toInt.toNat, by have : 0 ≤ (rd N 136 1).toInt := hb.1; omega⟩
  have h9 : n ≤ 9 := by have : (rd N 136 1).toInt ≤ 9 := hb.2; omega
  have ns : rd M 5 14 = rd N 136 53 := h.1.ns
  have sb : 0 ≤ (rd N 136 53).toInt ∧ (rd N 136 53).toInt ≤ 8 := h.1.sb
  have n0 : ((0 : Int32)).toInt = 0 := rfl
  have l1 : ((1 : Int64)).toInt = 1 := rfl
  have l9 : ((9999 : Int64)).toInt = 9999 := rfl
  unfold mX6_setLeg mX7_setLeg mX7_setLeg_b30
  refine R2.cr (pc_isLeg hn h9) (fun r2 p2 => R2.cr (pc_btw (Int32.toInt_toInt64 _) l1 l9) (fun r5 p5 => R2.kr (fun _ => ?_)))
  refine R2.xl (pc_reqLeg h.1 (n := n) hn) (fun M1 u q => ?_) (fun M1 w q => ?_)
  rotate_left
  · rcases q with ⟨e, _⟩ | ⟨e, q1⟩
    · exact absurd (congrArg Prod.snd e) (by intro z; cases z)
    · cases e
      have e2 : r2 = 0 := by
        rcases p2 with ⟨_, z⟩ | ⟨z, _⟩
        · exact absurd z q1
        · exact z
      exact R2.ir (fun _ => R2.bad3 (Or.inl ⟨e2, rfl⟩) h) (fun _ => R2.bad3 (Or.inl ⟨e2, rfl⟩) h)
  rcases q with ⟨e, q1⟩ | ⟨e, _⟩
  rotate_left
  · exact absurd (congrArg Prod.snd e) (by intro z; cases z)
  have eM : M1 = M := congrArg Prod.fst e
  subst eM
  have e2 : ¬ r2 = 0 := by
    rcases p2 with ⟨z, _⟩ | ⟨_, z⟩
    · rw [z]; decide
    · exact absurd q1 z
  refine R2.cl (pc_al (w := 1) 0 x2) (fun r6 p6 => ?_)
  have w1 : (wF0.getD 1 0).toInt = 1 := rfl
  have w2 : (wF1.getD 1 0).toInt = 9999 := rfl
  rw [w1, w2] at p6
  refine R2.il (fun c6 => ?_) (fun c6 => ?_)
  · have e5 : r5 = 0 := by
      rcases p5 with ⟨_, z⟩ | ⟨z, _⟩
      · rcases p6 with ⟨q, _⟩ | ⟨_, ⟨_, q⟩ | ⟨q, _⟩ | ⟨q, _⟩⟩
        · rw [q] at c6; exact absurd c6 (by decide)
        · exact absurd z q
        · exact absurd rfl q
        · exact absurd rfl q
      · exact z
    exact R2.ir (fun _ => R2.bad3 (Or.inr (Or.inl ⟨e2, e5, rfl⟩)) h) (fun _ => R2.bad3 (Or.inr (Or.inl ⟨e2, e5, rfl⟩)) h)
  have hr : 1 ≤ x2.toInt ∧ x2.toInt ≤ 9999 := by
    rcases p6 with ⟨_, ⟨_, q⟩ | ⟨q, _⟩ | ⟨q, _⟩⟩ | ⟨q, _⟩
    · exact q
    · exact absurd rfl q
    · exact absurd rfl q
    · exact absurd q c6
  have e5 : ¬ r5 = 0 := by
    rcases p5 with ⟨z, _⟩ | ⟨_, z⟩
    · rw [z]; decide
    · exact absurd hr z
  refine R2.xl pc_reqFlat (fun M2 u q => ?_) (fun M2 w q => ?_)
  rotate_left
  · rcases q with ⟨e, _⟩ | ⟨e, q2⟩
    · exact absurd (congrArg Prod.snd e) (by intro z; cases z)
    · cases e
      refine R2.ir (fun z => ?_) (fun _ => R2.bad3 (Or.inr (Or.inr ⟨e2, e5, rfl, rfl⟩)) h)
      have z : rd N 136 53 = 0 := z
      rw [ns, z] at q2
      exact absurd q2 (by decide)
  rcases q with ⟨e, q2⟩ | ⟨e, _⟩
  rotate_left
  · exact absurd (congrArg Prod.snd e) (by intro z; cases z)
  have eM : M2 = M1 := congrArg Prod.fst e
  subst eM
  have s0 : rd N 136 53 = 0 := i_eq.mpr (by rw [ns] at q2; rw [n0]; omega)
  refine R2.ir (fun _ => R2.ok3 e2 e5 (by decide) ?_) (fun z => absurd (show rd N 136 53 = 0 from s0) z)
  obtain ⟨b, hbn, eb⟩ : ∃ b : Nat, b < n ∧ x1 = Int32.ofNat b := ⟨x1.toInt.toNat, by omega, o_of q1.1⟩
  subst eb
  have tb : (Int32.ofNat b).toInt = (b : Int) := t_of (by omega)
  have n2 : ((2 : Int32)).toInt = 2 := rfl
  have ei : ((2 : Int32) + Int32.ofNat b).toNatClampNeg = 2 + b := by rw [i_clamp, i_add (by omega) (by omega)]; omega
  have cb : (Int32.ofNat b).toNatClampNeg = b := c_of (by omega)
  intro p q hp hq
  obtain ⟨N15, r14, u1, u2⟩ := cal_s hq
  cases u2
  refine R2.set (i := (2 : Int32) + Int32.ofNat b) (v := x2) (K := fun M15 => chk (okb (Int32.ofNat b) 9) (bnd ((rd M15 (5 + 1) (Int32.ofNat b).toNatClampNeg)) (fun x3_51 => chk (okb (Int32.ofNat b) 9) (bnd (wr M15 (5 + 1) (Int32.ofNat b).toNatClampNeg x2) (fun M20 => some (M20, Sum.inl x3_51)))))) (R := fun p q => XR nmb3 p q ∧ SS p.1 q.1) h.th (fun M3 N3 hS hc er e5' => ?_) p (N15, r14) hp u1
  rw [ei, cb]
  refine R2.kl (fun _ => R2.bl (fun x3 ex => R2.kl (fun _ => R2.bl (fun M20 e20 => R2.ok ⟨XR.inl ?_ ?_, ?_⟩))))
  · show rd (wr N3 136 (2 + b) x2) 135 5 = 0
    rw [rd_wk (by decide), e5']; exact rd_we
  · rw [ex]
    have hl : (b : Int) < (row 136 N3 1).toInt := by
      rw [er]; show (b : Int) < (rd (wr N 135 5 0) 136 1).toInt; rw [rd_wk (by decide)]; omega
    exact hS.1.leg b hl
  · have hl : (b : Int) < (row 136 N3 1).toInt := by
      rw [er]; show (b : Int) < (rd (wr N 135 5 0) 136 1).toInt; rw [rd_wk (by decide)]; omega
    have hP : PR 5 M20 (upf (row 136 N3) (2 + b) x2) := by rw [e20]; exact hS.1.setLeg hl
    have z53 : row 136 N3 53 = 0 := by rw [er]; show rd (wr N 135 5 0) 136 53 = 0; rw [rd_wk (by decide)]; exact s0
    have k20 : KS (fun c _ => 5 ≤ c ∧ c < 13) M3 M20 := by rw [e20]; exact KS.rf.wr (by omega)
    have l20 : KL M3 M20 := by rw [e20]; exact KL.rf.wr
    exact hS.row (f := upf (row 136 N3) (2 + b) x2) hP row_wr (RI.flat (by rw [upf_n (by omega)]; exact z53)) (fun c j hc => k20 c j (by omega)) (fun c j hc => rd_wk (by omega)) (hS.2.2.2.2.p5 k20 l20)
end ED
