/-! what is told of the state: alike -/
section GT
variable {n m a b s c l e : Nat} {M M' N N' N0 : Mem} {x x1 x2 v : Int32}
theorem tell_p {i : Nat} (hi : i < 86) : Pc (mX7_tellNow 135 (Int32.ofNat i) N) (fun q => q.1 = wr N 135 5 0 ∧ q.2 = rd N 136 i) := by
  unfold mX7_tellNow
  refine Pc.b (fun M1 e1 => Pc.k (fun _ => Pc.ok ⟨e1, ?_⟩))
  show rd M1 136 (Int32.ofNat i).toNatClampNeg = _
  rw [c_of (by omega), e1, rd_wk (by decide)]
theorem an_bends (h : SS M N) : R2 (mX6_bends 0 M) (mX7_bends 135 N) (fun r q => r = q.2) := by
  unfold mX6_bends mX7_bends
  refine R2.cl (pc_bends (pr_9 h.1)) (fun r e => R2.mr (tell_p (i := 0) (by omega)) (fun N3 q p => R2.ok ?_))
  show r = q
  have p2 : q = rd N 136 0 := p.2
  have hn : (rd N 136 0).toInt = (nb 5 M : Int) := h.1.pb.bn
  rw [e, p2, i_eq, hn, t_of (by have := nb8 (pr_9 h.1); omega)]
theorem an_legs (h : SS M N) : R2 (mX6_legs 0 M) (mX7_legs 135 N) (fun r q => r = q.2) := by
  unfold mX6_legs mX7_legs
  refine R2.mr (tell_p (i := 1) (by omega)) (fun N3 q p => R2.ok ?_)
  have p2 : q = rd N 136 1 := p.2
  show rd M 5 0 = q
  rw [p2]; exact h.1.lc
theorem an_made (h : SS M N) : R2 (mX6_made 0 M) (mX7_made 135 N) (fun r q => r = q.2) := by
  unfold mX6_made mX7_made
  refine R2.mr (tell_p (i := 52) (by omega)) (fun N3 q p => R2.ok ?_)
  have p2 : q = rd N 136 52 := p.2
  show rd M 5 13 = q
  rw [p2]; exact h.1.ma
theorem an_steps (h : SS M N) : R2 (mX6_steps 0 M) (mX7_steps 135 N) (fun r q => r = q.2) := by
  unfold mX6_steps mX7_steps
  refine R2.mr (tell_p (i := 53) (by omega)) (fun N3 q p => R2.ok ?_)
  have p2 : q = rd N 136 53 := p.2
  show rd M 5 14 = q
  rw [p2]; exact h.1.ns
theorem an_leg (h : SS M N) : R2 (mX6_leg 0 x1 M) (mX7_leg 135 x1 N) (XR (fun _ => 1)) := by
  have hb := h.1.lb
  obtain ⟨n, hn⟩ : ∃ n : Nat, (rd N 136 1).toInt = (n : Int) := ⟨(rd N 136 1).toInt.toNat, by have : 0 ≤ (rd N 136 1).toInt := hb.1; omega⟩
  have h9 : n ≤ 9 := by have : (rd N 136 1).toInt ≤ 9 := hb.2; omega
  unfold mX6_leg mX7_leg
  refine R2.cr (pc_isLeg hn h9) (fun r2 p2 => R2.xl (pc_reqLeg h.1 (n := n) hn) (fun M1 u q => ?_) (fun M1 w q => ?_))
  · rcases q with ⟨e, q1⟩ | ⟨e, _⟩
    rotate_left
    · exact absurd (congrArg Prod.snd e) (by intro z; cases z)
    have eM : M1 = M := congrArg Prod.fst e
    subst eM
    have e2 : ¬ r2 = 0 := by
      rcases p2 with ⟨z, _⟩ | ⟨_, z⟩
      · rw [z]; decide
      · exact absurd q1 z
    refine R2.ok1 e2 (R2.kl (fun _ => R2.kr (fun _ => R2.ok (XR.inl rd_we ?_))))
    obtain ⟨b, hbn, eb⟩ : ∃ b : Nat, b < n ∧ x1 = Int32.ofNat b := ⟨x1.toInt.toNat, by omega, o_of q1.1⟩
    subst eb
    have tb : (Int32.ofNat b).toInt = (b : Int) := t_of (by omega)
    have n2 : ((2 : Int32)).toInt = 2 := rfl
    have ei : ((2 : Int32) + Int32.ofNat b).toNatClampNeg = 2 + b := by rw [i_clamp, i_add (by omega) (by omega)]; omega
    rw [ei, c_of (by omega)]
    show rd M1 (5 + 1) b = rd (wr N 135 5 0) 136 (2 + b)
    rw [rd_wk (by decide)]
    exact h.1.leg b (by show (b : Int) < (rd N 136 1).toInt; omega)
  · rcases q with ⟨e, _⟩ | ⟨e, q1⟩
    · exact absurd (congrArg Prod.snd e) (by intro z; cases z)
    · cases e
      have e2 : r2 = 0 := by
        rcases p2 with ⟨_, z⟩ | ⟨z, _⟩
        · exact absurd z q1
        · exact z
      exact (R2.bad1 e2 rfl h).mono (fun _ _ z => z.1)
theorem an_isUp (h : SS M N) : R2 (mX6_isUp 0 x1 M) (mX7_isUp 135 x1 N) (XR (fun _ => 1)) := by
  have n8 := nb8 (pr_9 h.1)
  have hn : (rd N 136 0).toInt = (nb 5 M : Int) := h.1.pb.bn
  unfold mX6_isUp mX7_isUp
  refine R2.cr (pc_isBend hn n8) (fun r2 p2 => R2.xl (pc_reqBend h.1 hn) (fun M1 u q => ?_) (fun M1 w q => ?_))
  · rcases q with ⟨e, q1⟩ | ⟨e, _⟩
    rotate_left
    · exact absurd (congrArg Prod.snd e) (by intro z; cases z)
    have eM : M1 = M := congrArg Prod.fst e
    subst eM
    have e2 : ¬ r2 = 0 := by
      rcases p2 with ⟨z, _⟩ | ⟨_, z⟩
      · rw [z]; decide
      · exact absurd q1 z
    obtain ⟨b, hbn, eb⟩ : ∃ b : Nat, b < nb 5 M1 ∧ x1 = Int32.ofNat b := ⟨x1.toInt.toNat, by omega, o_of q1.1⟩
    subst eb
    have tb : (Int32.ofNat b).toInt = (b : Int) := t_of (by omega)
    have n11 : ((11 : Int32)).toInt = 11 := rfl
    have ei : ((11 : Int32) + Int32.ofNat b).toNatClampNeg = 11 + b := by rw [i_clamp, i_add (by omega) (by omega)]; omega
    have up := h.1.up b (by show (b : Int) < (rd N 136 0).toInt; omega)
    have up : rd N 136 (11 + b) = _ := up
    refine R2.ok1 e2 (R2.cl (pc_goesUp (b := b) h.1.ub (by omega)) (fun r6 e6 => R2.kl (fun _ => R2.kr (fun _ => ?_))))
    rw [ei]
    have e0 : rd (wr N 135 5 0) (135 + 1) (11 + b) = rd N 136 (11 + b) := rd_wk (by decide)
    rw [e0, up, ← e6]
    have v01 : r6 = 0 ∨ r6 = 1 := by
      rw [e6]
      cases (rd M1 5 2).toInt.toNat.testBit b <;> simp
    refine R2.ir (fun c => R2.ok (XR.inl rd_we c)) (fun c => R2.ok (XR.inl rd_we (v01.resolve_right c)))
  · rcases q with ⟨e, _⟩ | ⟨e, q1⟩
    · exact absurd (congrArg Prod.snd e) (by intro z; cases z)
    · cases e
      have e2 : r2 = 0 := by
        rcases p2 with ⟨_, z⟩ | ⟨z, _⟩
        · exact absurd z q1
        · exact z
      exact (R2.bad1 e2 rfl h).mono (fun _ _ z => z.1)
theorem an_tool (h : SS M N) : R2 (mX6_tool 0 x1 x2 M) (mX7_tool 135 x1 x2 N) (XR (fun _ => 1)) := by
  have l0 : ((0 : Int64)).toInt = 0 := rfl
  have l1 : ((1 : Int64)).toInt = 1 := rfl
  have l4 : ((4 : Int64)).toInt = 4 := rfl
  have n0 : ((0 : Int32)).toInt = 0 := rfl
  have bad : ∀ r : Int32, r = 0 → R2 (some (M, (Sum.inr 0 : Int32 ⊕ Nat))) (cal (mX7_good 135 r N) (fun M6 r5 => ite2 (r5 = 0) (some (M6, (0 : Int32))) (chk (okb (((39 : Int32) + ((2 : Int32) * x1)) + x2) 86) (some (M6, (rd M6 (135 + 1) ((((39 : Int32) + ((2 : Int32) * x1)) + x2)).toNatClampNeg)))))) (XR (fun _ => 1)) := fun r e => (R2.bad1 e rfl h).mono (fun _ _ z => z.1)
  have isT : ∀ hi : Int, (hi = if x1 = 4 then 0 else 1) → Pc (mX7_isTool x1 x2 N) (fun r => (r = 1 ∧ (0 ≤ x1.toInt ∧ x1.toInt ≤ 4) ∧ 0 ≤ x2.toInt ∧ x2.toInt ≤ hi) ∨ (r = 0 ∧ ¬ ((0 ≤ x1.toInt ∧ x1.toInt ≤ 4) ∧ 0 ≤ x2.toInt ∧ x2.toInt ≤ hi))) := by
    intro hi hh
    unfold mX7_isTool mX7_isTool_b25
    refine Pc.c (pc_btw (Int32.toInt_toInt64 x1) l0 l4) (fun r2 p2 => Pc.i (fun c => Pc.ok (Or.inr ⟨rfl, fun z => ?_⟩)) (fun c => ?_))
    · rcases p2 with ⟨e, _⟩ | ⟨_, q⟩
      · rw [e] at c; exact absurd c (by decide)
      · exact q z.1
    have hx : 0 ≤ x1.toInt ∧ x1.toInt ≤ 4 := by
      rcases p2 with ⟨_, q⟩ | ⟨e, _⟩
      · exact q
      · exact absurd e c
    have fin : ∀ {w : Int64}, w.toInt = hi → Pc (cap (mX7_between (x2).toInt64 (0 : Int64) w N) (fun r7 => ite2 (r7 = 0) (some (0 : Int32)) (some (1 : Int32)))) (fun r => (r = 1 ∧ (0 ≤ x1.toInt ∧ x1.toInt ≤ 4) ∧ 0 ≤ x2.toInt ∧ x2.toInt ≤ hi) ∨ (r = 0 ∧ ¬ ((0 ≤ x1.toInt ∧ x1.toInt ≤ 4) ∧ 0 ≤ x2.toInt ∧ x2.toInt ≤ hi))) := by
      intro w hw
      refine Pc.c (pc_btw (Int32.toInt_toInt64 x2) l0 hw) (fun r7 p7 => Pc.i (fun c7 => Pc.ok (Or.inr ⟨rfl, fun z => ?_⟩)) (fun c7 => Pc.ok (Or.inl ⟨rfl, hx, ?_⟩)))
      · rcases p7 with ⟨e, _⟩ | ⟨_, q⟩
        · rw [e] at c7; exact absurd c7 (by decide)
        · exact q z.2
      · rcases p7 with ⟨_, q⟩ | ⟨e, _⟩
        · exact q
        · exact absurd e c7
    refine Pc.i (fun z => fin ?_) (fun z => fin ?_)
    · rw [hh, if_pos z]; rfl
    · rw [hh, if_neg z]; rfl
  unfold mX7_tool
  by_cases hx : 0 ≤ x1.toInt ∧ x1.toInt ≤ 4
  · obtain ⟨t, ht, et⟩ : ∃ t : Nat, t < 5 ∧ x1 = Int32.ofNat t := ⟨x1.toInt.toNat, by omega, o_of hx.1⟩
    subst et
    have tt : (Int32.ofNat t).toInt = (t : Int) := t_of (by omega)
    refine R2.cr (isT _ rfl) (fun r2 p2 => ?_)
    have core : ∀ (w : Nat) (k : Int32), mX5_numberCount w M = some k → (k.toInt = (if Int32.ofNat t = 4 then 1 else 2)) → R2 (chk (decide (w < 11)) (ite2 (x2 < 0) (some (M, (Sum.inr 0 : Int32 ⊕ Nat))) (cap (mX5_numberCount w M) (fun r8 => ite2 (x2 < r8) (chk (okb (((2 : Int32) * Int32.ofNat t) + x2) 10) (some (M, Sum.inl (rd M (5 + 2) ((((2 : Int32) * Int32.ofNat t) + x2)).toNatClampNeg)))) (some (M, Sum.inr 0)))))) (cal (mX7_good 135 r2 N) (fun M6 r5 => ite2 (r5 = 0) (some (M6, (0 : Int32))) (chk (okb (((39 : Int32) + ((2 : Int32) * Int32.ofNat t)) + x2) 86) (some (M6, (rd M6 (135 + 1) ((((39 : Int32) + ((2 : Int32) * Int32.ofNat t)) + x2)).toNatClampNeg)))))) (XR (fun _ => 1)) := by
      intro w k ek hk
      rw [ek]
      refine R2.kl (fun _ => R2.il (fun c => bad r2 ?_) (fun c => R2.cl (Pc.ok (P := fun r => r = k) rfl) (fun r8 e8 => R2.il (fun c2 => ?_) (fun c2 => bad r2 ?_))))
      · have c := i_lt.mp c
        rw [n0] at c
        rcases p2 with ⟨_, _, q⟩ | ⟨e, _⟩
        · omega
        · exact e
      · have c := i_nlt c
        have c2 := i_lt.mp c2
        rw [n0] at c
        rw [e8, hk] at c2
        have hx2 : x2.toInt ≤ (if Int32.ofNat t = 4 then 0 else 1) := by
          by_cases z : Int32.ofNat t = 4
          · rw [if_pos z] at c2 ⊢; omega
          · rw [if_neg z] at c2 ⊢; omega
        have hx3 : x2.toInt ≤ 1 := by split at hx2 <;> omega
        have e2 : ¬ r2 = 0 := by
          rcases p2 with ⟨e, _⟩ | ⟨_, q⟩
          · rw [e]; decide
          · exact absurd ⟨hx, c, hx2⟩ q
        refine R2.ok1 e2 (R2.kl (fun _ => R2.kr (fun _ => R2.ok (XR.inl rd_we ?_))))
        have n39 : ((39 : Int32)).toInt = 39 := rfl
        have m2 := i_mulc (a := (2 : Int32)) (b := Int32.ofNat t) (c := 2) rfl (by omega) (by omega)
        have e39 : ((39 : Int32) + (2 : Int32) * Int32.ofNat t).toInt = 39 + 2 * (t : Int) := by rw [i_add (by omega) (by omega)]; omega
        have c1 : (((2 : Int32) * Int32.ofNat t) + x2).toNatClampNeg = 2 * t + x2.toInt.toNat := by rw [i_clamp, i_add (by omega) (by omega), m2]; omega
        have c3 : (((39 : Int32) + (2 : Int32) * Int32.ofNat t) + x2).toNatClampNeg = 39 + (2 * t + x2.toInt.toNat) := by rw [i_clamp, i_add (by omega) (by omega), e39]; omega
        rw [c1, c3]
        show _ = rd (wr N 135 5 0) 136 _
        rw [rd_wk (by decide)]
        exact h.1.tl _ (by omega)
      · have c := i_nlt c
        have c2 := i_nlt c2
        rw [n0] at c
        rw [e8, hk] at c2
        rcases p2 with ⟨_, _, q⟩ | ⟨e, _⟩
        · split at c2 <;> split at q <;> first | omega | contradiction
        · exact e
    unfold mX6_tool mX6_tool_b21
    have : t = 0 ∨ t = 1 ∨ t = 2 ∨ t = 3 ∨ t = 4 := by omega
    rcases this with rfl | rfl | rfl | rfl | rfl
    · exact R2.cl (Q := fun r => r = some 5) (Pc.ok rfl) (fun r e => by rw [e]; exact core 5 2 rfl (by decide))
    · exact R2.cl (Q := fun r => r = some 6) (Pc.ok rfl) (fun r e => by rw [e]; exact core 6 2 rfl (by decide))
    · exact R2.cl (Q := fun r => r = some 7) (Pc.ok rfl) (fun r e => by rw [e]; exact core 7 2 rfl (by decide))
    · exact R2.cl (Q := fun r => r = some 8) (Pc.ok rfl) (fun r e => by rw [e]; exact core 8 2 rfl (by decide))
    · exact R2.cl (Q := fun r => r = some 9) (Pc.ok rfl) (fun r e => by rw [e]; exact core 9 1 rfl (by decide))
  · have ne : ∀ d : Nat, d < 5 → ¬ x1 = Int32.ofNat d := fun d hd z => hx (by rw [z, t_of (by omega)]; omega)
    refine R2.cr (isT _ rfl) (fun r2 p2 => ?_)
    have e2 : r2 = 0 := by
      rcases p2 with ⟨_, q, _⟩ | ⟨e, _⟩
      · exact absurd q hx
      · exact e
    unfold mX6_tool mX6_tool_b21
    refine R2.cl (Q := fun r => r = none) ?_ (fun r e => ?_)
    · unfold mX5_ofTool
      exact Pc.i (fun z => absurd z (ne 0 (by omega))) (fun _ => Pc.i (fun z => absurd z (ne 1 (by omega))) (fun _ => Pc.i (fun z => absurd z (ne 2 (by omega))) (fun _ => Pc.i (fun z => absurd z (ne 3 (by omega))) (fun _ => Pc.i (fun z => absurd z (ne 4 (by omega))) (fun _ => Pc.ok rfl)))))
    · rw [e]
      exact bad r2 e2
end GT
