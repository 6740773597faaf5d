/-! the finished part: laid alike -/
section FI
variable {n m a b s c l e k k1 : Nat} {M M' N N' N0 : Mem} {x x1 x2 x3 x4 v : Int32}
theorem f_all : ∀ n, n < 9 → ((1 : Int32) <<< (Int32.ofNat n &&& 31)) - (1 : Int32) = Int32.ofNat (2 ^ n - 1) := by decide
theorem pc_allB2 (h9 : (rd M k 0).toInt ≤ 9) : Pc (mX1_allBends k M) (fun r => r = Int32.ofNat (2 ^ nb k M - 1)) := by
  unfold mX1_allBends
  exact Pc.c (pc_bends h9) (fun r2 e2 => Pc.ok (by rw [e2]; exact f_all _ (by have := nb8 h9; omega)))
/-- laying the finished part is laying a side on which all bends are made -/
theorem fin_side (h8 : n ≤ 8) : ∀ (f l : Nat) (d : Int32) (N : Mem), l ≤ 9 → (rd N 136 0).toInt = (n : Int) → (rd N 136 1).toInt ≤ (n : Int) + 1 → Pc (mX7_layFinished_l14 135 f d (Int32.ofNat l) N) (fun q => mX7_laySide_l16 135 f 1 3 0 (Int32.ofNat (2 ^ n - 1)) d (Int32.ofNat l) N = some q) := by
  intro f
  induction f with
  | zero => intro l d N _ _ _; exact Pc.n
  | succ f IH =>
    intro l d N hl hn h1
    show Pc (mX7_layFinished_b14 135 (mX7_layFinished_l14 135 f) d (Int32.ofNat l) N) (fun q => mX7_laySide_b16 135 (mX7_laySide_l16 135 f) 1 3 0 (Int32.ofNat (2 ^ n - 1)) d (Int32.ofNat l) N = some q)
    have n0 : ((0 : Int32)).toInt = 0 := rfl
    have n1 : ((1 : Int32)).toInt = 1 := rfl
    have n11 : ((11 : Int32)).toInt = 11 := rfl
    have tl : (Int32.ofNat l).toInt = (l : Int) := t_of (by omega)
    unfold mX7_layFinished_b14 mX7_laySide_b16
    have g0 : ¬ Int32.ofNat l < 0 := fun z => by have := i_lt.mp z; omega
    rw [show ∀ (a b : Option (Mem × Unit)), ite2 (Int32.ofNat l < 0) a b = b from fun a b => if_neg g0]
    refine Pc.k (fun k1 => ?_)
    rw [k1]
    refine Pc.i (fun c => Pc.ok ?_) (fun c => ?_)
    · show ite2 _ _ _ = _
      exact if_pos c
    have c' : (l : Int) < (rd N 136 1).toInt := by have := i_nle c; rw [tl] at this; exact this
    rw [show ∀ (a b : Option (Mem × Unit)), (chk true (ite2 ((rd N (135 + 1) ((1 : Int32)).toNatClampNeg) ≤ Int32.ofNat l) a b) = b) from fun a b => if_neg c]
    · refine Pc.m (Pc.self _) (fun M9 u e9 => ?_)
      have ke : KS SRl N M9 := by
        obtain ⟨q, _⟩ := pc_layLeg (l := l) (by omega) _ e9
        exact q
      have k0' : ∀ j, rd M9 136 j = rd N 136 j := fun j => ke 136 j (by unfold SRl; omega)
      have ee : ∀ K : Mem → Unit → Option (Mem × Unit), cal (mX7_layLeg 135 (Int32.ofNat l) d N) K = K M9 u := fun K => by rw [e9]; rfl
      rw [ee]
      have g1 : ¬ (1 : Int32) ≤ 0 := by decide
      rw [show ∀ (a b : Option (Mem × Unit)), ite2 ((1 : Int32) ≤ 0) a b = b from fun a b => if_neg g1]
      unfold mX7_laySide_b53
      have hn9 : (rd M9 136 0).toInt = (n : Int) := by rw [k0']; exact hn
      have h19 : (rd M9 136 1).toInt ≤ (n : Int) + 1 := by rw [k0']; exact h1
      have e1 : (rd M9 (135 + 1) ((0 : Int32)).toNatClampNeg - 1).toInt = (n : Int) - 1 := by
        show (rd M9 136 0 - 1).toInt = _
        rw [i_sub (by omega) (by omega)]; omega
      refine Pc.k (fun k2 => ?_)
      rw [k2]
      have btw : ∀ r, mX7_between (Int32.ofNat l).toInt64 (0 : Int64) (((rd M9 (135 + 1) ((0 : Int32)).toNatClampNeg) - (1 : Int32))).toInt64 M9 = some r → (r = 1 ∧ (l : Int) < n) ∨ (r = 0 ∧ ¬ (l : Int) < n) := fun r hr => by
        have := pc_btw (Int32.toInt_toInt64 _) (b := 0) (by decide) (Int32.toInt_toInt64 _) _ hr
        rw [e1, tl] at this
        rcases this with ⟨a, b⟩ | ⟨a, b⟩
        · exact Or.inl ⟨a, by omega⟩
        · exact Or.inr ⟨a, by omega⟩
      obtain ⟨r14, e14⟩ : ∃ r, mX7_between (Int32.ofNat l).toInt64 (0 : Int64) (((rd M9 (135 + 1) ((0 : Int32)).toNatClampNeg) - (1 : Int32))).toInt64 M9 = some r := by
        unfold mX7_between ite2
        split
        · exact ⟨_, rfl⟩
        · split
          · exact ⟨_, rfl⟩
          · exact ⟨_, rfl⟩
      rw [show ∀ K : Int32 → Option (Mem × Unit), chk true (cap (mX7_between (Int32.ofNat l).toInt64 (0 : Int64) (((rd M9 (135 + 1) ((0 : Int32)).toNatClampNeg) - (1 : Int32))).toInt64 M9) K) = K r14 from fun K => by rw [e14]; rfl]
      have nxt : ∀ d' : Int32, l < 9 → Pc (mX7_layFinished_b66 135 (mX7_layFinished_l14 135 f) (Int32.ofNat l) d' M9) (fun q => mX7_laySide_b136 135 (mX7_laySide_l16 135 f) 1 3 0 (Int32.ofNat (2 ^ n - 1)) d' (Int32.ofNat l) M9 = some q) := fun d' h9 => by
        unfold mX7_layFinished_b66 mX7_laySide_b136
        refine Pc.b (fun j ej => ?_)
        show Pc _ (fun q => mX7_laySide_l16 135 f 1 3 0 (Int32.ofNat (2 ^ n - 1)) d' (Int32.ofNat l + 1) M9 = some q)
        rw [ej, o_inc (by omega)]
        exact IH (l + 1) d' M9 (by omega) hn9 h19
      have hl9 : l < 9 := by omega
      refine Pc.i (fun c2 => ?_) (fun c2 => ?_)
      · have tl2 : (l : Int) = (n : Int) := by
          have := congrArg Int32.toInt c2
          rw [tl] at this
          exact this.trans hn9
        rcases btw r14 e14 with ⟨_, q⟩ | ⟨q, _⟩
        · omega
        rw [q, show ∀ (a b : Option (Mem × Unit)), ite2 ((0 : Int32) = 0) a b = a from fun a b => if_pos rfl]
        exact nxt d hl9
      have hln : l < n := by
        have : ¬ (l : Int) = (n : Int) := fun z => c2 (by rw [i_eq, tl]; exact z.trans hn9.symm)
        omega
      rcases btw r14 e14 with ⟨q, _⟩ | ⟨_, q⟩
      rotate_left
      · omega
      rw [q, show ∀ (a b : Option (Mem × Unit)), ite2 ((1 : Int32) = 0) a b = b from fun a b => if_neg (by decide)]
      have tb : (2 ^ n - 1).testBit l = true := by rw [Nat.testBit_two_pow_sub_one]; exact decide_eq_true hln
      have p256 : 2 ^ n - 1 < 256 := by
        have : 2 ^ n ≤ 2 ^ 8 := Nat.pow_le_pow_right (by decide) h8
        have h88 : (2 : Nat) ^ 8 = 256 := rfl
        omega
      have hh : mX7_has (Int32.ofNat (2 ^ n - 1)) (Int32.ofNat l) M9 = some 1 := by
        unfold mX7_has
        exact if_pos ((f_has _ p256 l (by omega)).mpr tb)
      rw [show ∀ K : Int32 → Option (Mem × Unit), cap (mX7_has (Int32.ofNat (2 ^ n - 1)) (Int32.ofNat l) M9) K = K 1 from fun K => by rw [hh]; rfl]
      rw [show ∀ (a b : Option (Mem × Unit)), ite2 ((1 : Int32) = 0) a b = b from fun a b => if_neg (by decide)]
      refine Pc.k (fun k3 => ?_)
      rw [k3]
      unfold mX7_layFinished_b63 mX7_laySide_b103 mX7_laySide_b113 mX7_laySide_b131
      refine Pc.i (fun c3 => ?_) (fun c3 => ?_)
      · rw [show ∀ (a b : Option (Mem × Unit)), chk true (ite2 ((rd M9 (135 + 1) (((11 : Int32) + Int32.ofNat l)).toNatClampNeg) = (1 : Int32)) a b) = a from fun a b => if_pos c3]
        rw [show ∀ (a b : Option (Mem × Unit)), ite2 ((1 : Int32) = 0) a b = b from fun a b => if_neg (by decide)]
        rw [show ∀ (a b : Option (Mem × Unit)), ite2 ((1 : Int32) = 0) a b = b from fun a b => if_neg (by decide)]
        exact nxt _ hl9
      · rw [show ∀ (a b : Option (Mem × Unit)), chk true (ite2 ((rd M9 (135 + 1) (((11 : Int32) + Int32.ofNat l)).toNatClampNeg) = (1 : Int32)) a b) = b from fun a b => if_neg c3]
        rw [show ∀ (a b : Option (Mem × Unit)), ite2 ((0 : Int32) = 0) a b = a from fun a b => if_pos rfl]
        rw [show ∀ (a b : Option (Mem × Unit)), ite2 ((0 : Int32) = 0) a b = a from fun a b => if_pos rfl]
        exact nxt _ hl9
/-- the finished part, laid by both -/
theorem layFin_R (h : SS M N) : R2 (mX2_layFinished 103 5 M) (mX7_layFinished 135 N) (fun p q => (∀ j : Nat, (j : Int) < (rd N 136 1).toInt → LG 103 p.1 q.1 j) ∧ rd p.1 103 6 = rd N 136 1 ∧ (∀ j, rd p.1 5 j = rd M 5 j) ∧ KS SRl N q.1) := by
  have n8 := nb8 (pr_9 h.1)
  have hn : (rd N 136 0).toInt = (nb 5 M : Int) := h.1.pb.bn
  have lb : 0 ≤ (rd N 136 1).toInt ∧ (rd N 136 1).toInt ≤ 9 := h.1.lb
  have lc : rd M 5 0 = rd N 136 1 := h.1.lc
  have ub : 0 ≤ (rd M 5 2).toInt ∧ (rd M 5 2).toInt ≤ 255 := h.1.ub
  have h1n : (rd N 136 1).toInt ≤ (nb 5 M : Int) + 1 := by unfold nb; rw [lc]; omega
  have hup : ∀ b : Nat, b < nb 5 M → rd N 136 (11 + b) = if (rd M 5 2).toInt.toNat.testBit b then 1 else 0 := fun b hb => h.1.up b (by have c : ((row 136 N) 0).toInt = (nb 5 M : Int) := hn; omega)
  unfold mX2_layFinished
  refine R2.bl (fun M1 e1 => ?_)
  have k5 : ∀ j, rd M1 5 j = rd M 5 j := fun j => by rw [e1, rd_wk (by decide)]
  have n5 : nb 5 M1 = nb 5 M := by unfold nb; rw [k5]
  refine R2.cl (pc_allB2 (k := 5) (M := M1) (by rw [k5]; exact pr_9 h.1)) (fun r4 e4 => ?_)
  rw [n5] at e4
  have hu : ∀ b, b < nb 5 M → ((((rd M1 5 2 >>> (Int32.ofNat b &&& 31)) &&& (1 : Int32)) = 0) ↔ (fun b => (rd M 5 2).toInt.toNat.testBit b) b = false) := fun b hb => by
    rw [k5]
    have := f_has0 (rd M 5 2).toInt.toNat (by omega) b (by omega)
    rw [← o_of ub.1] at this
    exact this
  have hW : WI 103 5 (fun b => (rd M 5 2).toInt.toNat.testBit b) (nb 5 M) 0 M1 N := by
    refine ⟨by rw [e1, rd_we]; exact lc, lb, fun j hj => ?_, hn, fun b hb => ?_⟩
    · rw [e1, rd_wk (by decide)]; exact h.1.leg j hj
    · rw [hup b hb]
      show _ ↔ _
      by_cases q : (rd M 5 2).toInt.toNat.testBit b = true
      · rw [if_pos q]; exact ⟨fun _ => Or.inl ⟨rfl, by decide⟩, fun _ => q⟩
      · rw [if_neg q]
        exact ⟨fun z => absurd z q, fun z => by
          rcases z with ⟨z, _⟩ | ⟨_, z⟩
          · exact absurd z (by decide)
          · exact absurd rfl z⟩
  have ha : 2 ^ nb 5 M - 1 < 2 ^ nb 5 M := by have := Nat.two_pow_pos (nb 5 M); omega
  have sd := side_R (k := 103) (k1 := 5) (d := 1) (t := 3) (st := 1) (tt := 3) (aa := r4) (Or.inl (by omega)) (Or.inl rfl) ha n8 (by decide) (by decide) hu hW (by decide) (l := 0) (by decide) (fun z => absurd z (by decide)) (fun _ => by decide) rfl rfl e4
  have md : Pc (mX7_layFinished 135 N) (fun q => mX7_laySide 135 0 1 1 3 0 r4 N = some q) := by
    unfold mX7_layFinished mX7_laySide
    refine Pc.b (fun N1 en1 => Pc.b (fun N3 en3 => ?_))
    have r6 : ∀ j, rd N3 136 j = rd N 136 j := fun j => by rw [en3, rd_wk (by decide), en1, rd_wk (by decide)]
    have := fin_side n8 5000 0 1 N3 (by omega) (by rw [r6]; exact hn) (by rw [r6]; exact h1n)
    refine this.mono (fun q hq => ?_)
    show mX7_laySide_l16 135 5000 1 3 0 r4 1 0 (wr (wr N 135 21 0) 135 22 0) = some q
    rw [e4, ← en1, ← en3]
    exact hq
  intro p q hp hq
  obtain ⟨M8, u8, p1, p2⟩ := cal_s hp
  cases p2
  obtain ⟨w1, w2, w3, w4, w5⟩ := sd _ q p1 (md q hq)
  have w1 : KS (SPl 103) M1 M8 := w1
  have w2 : KS SRl N q.1 := w2
  refine ⟨fun j hj => w3 j hj (Or.inr ?_), ?_, fun j => ?_, w2⟩
  · unfold vis; rw [if_pos (show ((1 : Int32)).toInt = 1 from rfl)]; show (0 : Int) ≤ _; omega
  · show rd M8 103 6 = _
    rw [w1 103 6 (by unfold SPl; omega), e1, rd_we]; exact lc
  · show rd M8 5 j = _
    rw [w1 5 j (by unfold SPl; omega)]; exact k5 j
/-- how far the corners reach -/
theorem ext_R (w : Nat) (hw : w ≤ 9) (kc kr : Nat) (hv : ∀ j, j < w → rd M kc j = rd N kr j) (l1 : (rd N 136 1).toInt = (w : Int)) {K : Nat → Int32 → Int32 → Int32 → Mem → Option (Mem × Int32)} (h0 : ∀ a b c, K 0 a b c N = none) (hK : ∀ f x1 x2 x3, K (f + 1) x1 x2 x3 N = chk (okb (1 : Int32) 86) (ite2 ((rd N 136 1) ≤ x3) (some (N, (x2 - x1))) (chk (okb x3 9) (bnd ((imin x1 (rd N kr (x3).toNatClampNeg))) (fun x1_35 => chk (okb x3 9) (bnd ((imax x2 (rd N kr (x3).toNatClampNeg))) (fun x2_46 => bnd (x3 + (1 : Int32)) (fun x3_47 => K f x1_35 x2_46 x3_47 N)))))))) :
    ∀ (f1 f2 j : Nat) (x y : Int32), j ≤ w → R2 (mX2_extent_l7 kc M f1 (rd N 136 1) x y (Int32.ofNat j)) (K f2 x y (Int32.ofNat j) N) (fun r q => r = q.2) := by
  intro f1
  induction f1 with
  | zero => intro f2 j x y _; exact R2.nl
  | succ f1 IH =>
    intro f2 j x y hj
    cases f2 with
    | zero => rw [h0]; exact R2.nr
    | succ f2 =>
      rw [hK]
      have n9 : ((9 : Int32)).toInt = 9 := rfl
      have tj : (Int32.ofNat j).toInt = (j : Int) := t_of (by omega)
      unfold mX2_extent_l7 mX2_extent_b7
      refine R2.kr (fun _ => R2.il (fun c => R2.ir (fun _ => R2.ok rfl) (fun c2 => absurd c c2)) (fun c => R2.ir (fun c2 => absurd c2 c) (fun _ => R2.il (fun c3 => ?_) (fun c3 => ?_))))
      · have c := i_nle c; have c3 := i_le.mp c3; exfalso; omega
      have c := i_nle c
      refine R2.kl (fun _ => R2.bl (fun a1 ea1 => R2.kl (fun _ => R2.bl (fun a2 ea2 => R2.bl (fun a3 ea3 => R2.kr (fun _ => R2.br (fun b1 eb1 => R2.kr (fun _ => R2.br (fun b2 eb2 => R2.br (fun b3 eb3 => ?_))))))))))
      rw [c_of (by omega), hv j (by omega)] at ea1 ea2
      rw [c_of (by omega)] at eb1 eb2
      rw [ea1, ea2, ea3, eb1, eb2, eb3, o_inc (by omega)]
      exact IH f2 (j + 1) _ _ (by omega)
theorem an_finishedWidth (h : SS M N) : R2 (mX6_finishedWidth 0 M) (mX7_finishedWidth 135 N) (fun p q => p.2 = q.2) := by
  have lb : 0 ≤ (rd N 136 1).toInt ∧ (rd N 136 1).toInt ≤ 9 := h.1.lb
  have lc : rd M 5 0 = rd N 136 1 := h.1.lc
  unfold mX6_finishedWidth mX7_finishedWidth mX2_extent
  refine R2.br (fun N1 e1 => R2.mm (layFin_R (N := N1) (by rw [e1]; exact h.th)) (fun M3 _ N5 _ p => ?_))
  obtain ⟨p1, p2, p3, p4⟩ := p
  have r1 : rd N1 136 1 = rd N 136 1 := by rw [e1]; exact rd_wk (by decide)
  have r5 : rd N5 136 1 = rd N 136 1 := (p4 136 1 (by unfold SRl; omega)).trans r1
  intro p q hp hq
  obtain ⟨r, hr, hp⟩ := cap_s hp
  cases hp
  rw [show rd M3 5 0 = rd N5 136 1 from (p3 0).trans (lc.trans r5.symm)] at hr
  exact ext_R (N := N5) (rd N 136 1).toInt.toNat (by omega) 104 143 (fun j hj => (p1 j (by rw [r1]; omega)).1) (by rw [r5]; omega) (K := mX7_finishedWidth_l15 135) (fun _ _ _ => rfl) (fun _ _ _ _ => rfl) 5000 5000 0 0 0 (by omega) r q hr hq
theorem an_finishedHeight (h : SS M N) : R2 (mX6_finishedHeight 0 M) (mX7_finishedHeight 135 N) (fun p q => p.2 = q.2) := by
  have lb : 0 ≤ (rd N 136 1).toInt ∧ (rd N 136 1).toInt ≤ 9 := h.1.lb
  have lc : rd M 5 0 = rd N 136 1 := h.1.lc
  unfold mX6_finishedHeight mX7_finishedHeight mX2_extent
  refine R2.br (fun N1 e1 => R2.mm (layFin_R (N := N1) (by rw [e1]; exact h.th)) (fun M3 _ N5 _ p => ?_))
  obtain ⟨p1, p2, p3, p4⟩ := p
  have r1 : rd N1 136 1 = rd N 136 1 := by rw [e1]; exact rd_wk (by decide)
  have r5 : rd N5 136 1 = rd N 136 1 := (p4 136 1 (by unfold SRl; omega)).trans r1
  intro p q hp hq
  obtain ⟨r, hr, hp⟩ := cap_s hp
  cases hp
  rw [show rd M3 5 0 = rd N5 136 1 from (p3 0).trans (lc.trans r5.symm)] at hr
  exact ext_R (N := N5) (rd N 136 1).toInt.toNat (by omega) 105 144 (fun j hj => (p1 j (by rw [r1]; omega)).2.1) (by rw [r5]; omega) (K := mX7_finishedHeight_l15 135) (fun _ _ _ => rfl) (fun _ _ _ _ => rfl) 5000 5000 0 0 0 (by omega) r q hr hq
theorem an_isFinishedCrossed (h : SS M N) : R2 (mX6_isFinishedCrossed 0 M) (mX7_isFinishedCrossed 135 N) (fun p q => p.2 = q.2) := by
  have lb : 0 ≤ (rd N 136 1).toInt ∧ (rd N 136 1).toInt ≤ 9 := h.1.lb
  unfold mX6_isFinishedCrossed mX7_isFinishedCrossed
  refine R2.br (fun N1 e1 => R2.mm (layFin_R (N := N1) (by rw [e1]; exact h.th)) (fun M3 _ N5 _ p => ?_))
  obtain ⟨p1, p2, p3, p4⟩ := p
  have p2 : rd M3 103 6 = rd N1 136 1 := p2
  have r1 : rd N1 136 1 = rd N 136 1 := by rw [e1]; exact rd_wk (by decide)
  have r5 : rd N5 136 1 = rd N 136 1 := (p4 136 1 (by unfold SRl; omega)).trans r1
  refine R2.cl (pc_crsC (k := 103) (N := N5) (fun j hj => p1 j (by rw [r1, ← r5]; exact hj)) (by rw [p2, r5, r1]) (by rw [r5]; exact lb.1) (by rw [r5]; exact lb.2)) (fun r hr => R2.cr (pc_crsR (N := N5) (by rw [r5]; exact lb.1) (by rw [r5]; exact lb.2)) (fun q hq => R2.kl (fun _ => R2.kr (fun _ => R2.ok ?_))))
  show r = q
  rcases hr with ⟨e, z⟩ | ⟨e, z⟩
  · rcases hq with ⟨e2, z2⟩ | ⟨e2, z2⟩
    · rw [e, e2]
    · exact absurd z z2
  · rcases hq with ⟨e2, z2⟩ | ⟨e2, z2⟩
    · exact absurd z2 z
    · rw [e, e2]
theorem an_finishedCorner (h : SS M N) : R2 (mX6_finishedCorner 0 x1 x2 M) (mX7_finishedCorner 135 x1 x2 N) (XR nmb2) := by
  have lb : 0 ≤ (rd N 136 1).toInt ∧ (rd N 136 1).toInt ≤ 9 := h.1.lb
  obtain ⟨w, hw⟩ : ∃ w : Nat, (rd N 136 1).toInt = (w : Int) := ⟨(rd N 136 1).toInt.toNat, by omega⟩
  refine R2.mono (Q := fun p q => XR nmb2 p q ∧ SS p.1 q.1 ∨ XR nmb2 p q) ?_ (fun p q z => z.elim (·.1) id)
  unfold mX6_finishedCorner mX7_finishedCorner
  refine R2.cr (pc_isLeg hw (by omega)) (fun r2 p2 => R2.cr (pc_btw (Int32.toInt_toInt64 _) (b := 0) (by decide) (c := 1) (by decide)) (fun r5 p5 => ?_))
  refine R2.xl (pc_reqLeg h.1 (n := w) hw) (fun M1 u q => ?_) (fun M1 u q => ?_)
  rotate_left
  · rcases q with ⟨e, _⟩ | ⟨e, q2⟩
    · exact absurd (congrArg Prod.snd e) (by intro z; cases z)
    cases e
    refine (R2.bad2 (num := nmb2) (Or.inl ⟨?_, rfl⟩) h).mono (fun p q z => Or.inl z)
    rcases p2 with ⟨_, z2⟩ | ⟨z2, _⟩
    · exact absurd z2 q2
    · exact z2
  rcases q with ⟨e, q2⟩ | ⟨e, _⟩
  rotate_left
  · exact absurd (congrArg Prod.snd e) (by intro z; cases z)
  cases e
  have g2 : ¬ r2 = 0 := by
    rcases p2 with ⟨z2, _⟩ | ⟨_, z2⟩
    · rw [z2]; decide
    · exact absurd q2 z2
  refine R2.xl (pc_reqChoice (n := 1) rfl) (fun M1 u q => ?_) (fun M1 u q => ?_)
  rotate_left
  · rcases q with ⟨e, _⟩ | ⟨e, q3⟩
    · exact absurd (congrArg Prod.snd e) (by intro z; cases z)
    cases e
    refine (R2.bad2 (num := nmb2) (Or.inr ⟨g2, ?_, rfl⟩) h).mono (fun p q z => Or.inl z)
    rcases p5 with ⟨_, z2⟩ | ⟨z2, _⟩
    · exact absurd z2 q3
    · exact z2
  rcases q with ⟨e, q3⟩ | ⟨e, _⟩
  rotate_left
  · exact absurd (congrArg Prod.snd e) (by intro z; cases z)
  cases e
  have g5 : ¬ r5 = 0 := by
    rcases p5 with ⟨z2, _⟩ | ⟨_, z2⟩
    · rw [z2]; decide
    · exact absurd q3 z2
  refine R2.ok2 g2 g5 (R2.mm (layFin_R h.th) (fun M3 _ N5 _ p => ?_))
  obtain ⟨p1, p2, p3, p4⟩ := p
  have p4 : KS SRl (wr N 135 5 0) N5 := p4
  have e5 : rd N5 135 5 = 0 := (p4 135 5 (by unfold SRl; omega)).trans rd_we
  obtain ⟨l, hl, el⟩ : ∃ l : Nat, l < w ∧ x1 = Int32.ofNat l := ⟨x1.toInt.toNat, by omega, o_of q2.1⟩
  subst el
  have hg := p1 l (by rw [rd_wk (by decide), hw]; omega)
  rw [c_of (by omega)]
  exact R2.il (fun z => R2.ir (fun _ => R2.kl (fun _ => R2.kr (fun _ => R2.ok (Or.inr (XR.inl e5 hg.1))))) (fun z2 => absurd z z2)) (fun z => R2.ir (fun z2 => absurd z2 z) (fun _ => R2.kl (fun _ => R2.kr (fun _ => R2.ok (Or.inr (XR.inl e5 hg.2.1))))))
end FI
