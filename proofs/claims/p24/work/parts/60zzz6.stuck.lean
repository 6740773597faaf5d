/-! stuck bends, corners: alike -/
section SK
variable {n m a b s c l e : Nat} {M M' N N' N0 : Mem} {x x1 x2 x3 x4 v : Int32}
theorem f_tw : ∀ b, b < 8 → (2 : Int32) * Int32.ofNat b = Int32.ofNat (2 * b) := by decide
theorem bt_get3 {x : Int32} {c : Nat} (hc : c < 16) : (((x >>> (Int32.ofNat c &&& 31)) &&& (3 : Int32)) = 0) ↔ (bt x c = false ∧ bt x (c + 1) = false) := by
  have e : ∀ d, bt ((x >>> (Int32.ofNat c &&& 31)) &&& (3 : Int32)) d = (decide (d < 2) && bt x (c + d)) := by
    intro d
    unfold bt
    rw [Int32.toBitVec_and, BitVec.getLsbD_and, Int32.toBitVec_shiftRight, BitVec.sshiftRight', sm_bv c hc, BitVec.getLsbD_sshiftRight]
    show (_ && (3#32).getLsbD d) = _
    have h3 : (3#32).getLsbD d = decide (d < 2) := by
      have : d = 0 ∨ d = 1 ∨ 2 ≤ d := by omega
      rcases this with h | h | h
      · subst h; rfl
      · subst h; rfl
      · rw [decide_eq_false (by omega)]
        show (3#32).toNat.testBit d = false
        rw [show (3#32).toNat = 3 from rfl]
        exact Nat.testBit_lt_two_pow (Nat.lt_of_lt_of_le (by decide : 3 < 2 ^ 2) (Nat.pow_le_pow_right (by decide) h))
    rw [h3]
    by_cases h : d < 2
    · have h1 : c + d < 32 := by omega
      have h2 : ¬ 32 ≤ d := by omega
      simp [h, h1, h2]
    · rw [decide_eq_false h]; simp
  constructor
  · intro h
    have e0 := e 0
    have e1 := e 1
    rw [h, bt_0] at e0 e1
    exact ⟨by simpa using e0.symm, by simpa using e1.symm⟩
  · intro h
    refine bt_ext (fun d _ => ?_)
    rw [e, bt_0]
    have : d = 0 ∨ d = 1 ∨ 2 ≤ d := by omega
    rcases this with z | z | z
    · subst z; rw [Nat.add_zero, h.1]; simp
    · subst z; rw [h.2]; simp
    · rw [decide_eq_false (by omega)]; rfl
/-- what the class found possible, told of every such state -/
theorem pc_poss (h9 : (rd M 5 0).toInt ≤ 9) (ha : a < 2 ^ nb 5 M) : ∀ (f c : Nat) (x : Int32) (M1 : Mem), KS (SPs 103) M M1 → c ≤ 2 * nb 5 M → Pc (mX2_possibleSteps_l5 103 5 f (Int32.ofNat a) x (Int32.ofNat c) M1) (fun q => KS (SPs 103) M q.1 ∧ ∃ V : Nat → Int32, ∀ d, d < 2 * nb 5 M → (c ≤ d → RV 5 M a d (V d)) ∧ bt q.2 d = (bt x d || (decide (c ≤ d) && decide (V d = 0)))) := by
  have n8 := nb8 h9
  intro f
  induction f with
  | zero => intro c x M1 _ _; exact Pc.n
  | succ f IH =>
    intro c x M1 hk hc
    obtain ⟨k5, kn⟩ := SS.k103 hk
    have bl : BL 5 M 5 M1 := BL.ks hk (fun c j h1 h2 z => by unfold SPs at z; omega)
    unfold mX2_possibleSteps_l5 mX2_possibleSteps_b5 mX2_possibleSteps_b34
    refine Pc.c (pc_bends (by rw [k5]; exact h9)) (fun r4 e4 => ?_)
    subst e4
    have c1 : ((2 : Int32) * Int32.ofNat (nb 5 M1) ≤ Int32.ofNat c) ↔ (2 * nb 5 M ≤ c) := by rw [i_le, kn, two_o n8, t_of (by omega)]; omega
    refine Pc.i (fun z => Pc.ok ⟨hk, fun _ => 1, fun d hd => ⟨fun z2 => ?_, ?_⟩⟩) (fun z => ?_)
    · have := c1.mp z; omega
    · have := c1.mp z
      rw [decide_eq_false (show ¬ c ≤ d by omega)]; simp
    have hc2 : c < 2 * nb 5 M := by
      rcases Nat.lt_or_ge c (2 * nb 5 M) with q | q
      · exact q
      · exact absurd (c1.mpr q) z
    have rv : Pc (mX2_reasonFor 103 5 (Int32.ofNat a) (Int32.ofNat c) M1) (fun q => RV 5 M a c q.2) := by
      intro q e N hN
      have hN1 : PB 5 M1 (row 136 N) := hN.bl bl
      have hn := hN1.bn
      have ec : 2 * (c / 2) + c % 2 = c := by omega
      have h := reason_B (k := 103) (b := c / 2) (s := c % 2) (by omega) hN1 hn (by omega) (by omega) (by rw [kn]; exact ha)
      rw [ec] at h
      exact fun q' e' => ((h q q' e e').1).symm
    have fr : Pc (mX2_reasonFor 103 5 (Int32.ofNat a) (Int32.ofNat c) M1) (fun q => KS (SPs 103) M q.1) := fun q e => uX2_reasonFor hk q e
    refine Pc.m (rv.and fr) (fun M9 r8 p => ?_)
    obtain ⟨p1, p2⟩ := p
    have p1 : RV 5 M a c r8 := p1
    have p2 : KS (SPs 103) M M9 := p2
    have go : ∀ y : Int32, (∀ d, d < 2 * nb 5 M → bt y d = (bt x d || (decide (c = d) && decide (r8 = 0)))) → Pc (mX2_possibleSteps_l5 103 5 f (Int32.ofNat a) y (Int32.ofNat (c + 1)) M9) (fun q => KS (SPs 103) M q.1 ∧ ∃ V : Nat → Int32, ∀ d, d < 2 * nb 5 M → (c ≤ d → RV 5 M a d (V d)) ∧ bt q.2 d = (bt x d || (decide (c ≤ d) && decide (V d = 0)))) := fun y hy => (IH (c + 1) y M9 p2 (by omega)).mono (fun q hq => by
      obtain ⟨q1, V, q2⟩ := hq
      refine ⟨q1, fun d => if d = c then r8 else V d, fun d hd => ⟨fun hcd => ?_, ?_⟩⟩
      · show RV 5 M a d (if d = c then r8 else V d)
        by_cases e : d = c
        · rw [if_pos e, e]; exact p1
        · rw [if_neg e]; exact (q2 d hd).1 (by omega)
      · show _ = (bt x d || (decide (c ≤ d) && decide ((if d = c then r8 else V d) = 0)))
        rw [(q2 d hd).2, hy d hd]
        by_cases e : d = c
        · subst e
          rw [if_pos rfl, decide_eq_true rfl, decide_eq_false (show ¬ d + 1 ≤ d by omega), decide_eq_true (Nat.le_refl d)]; simp
        · rw [if_neg e, decide_eq_false (show ¬ c = d from fun z => e z.symm)]
          by_cases g : c ≤ d
          · rw [decide_eq_true g, decide_eq_true (show c + 1 ≤ d by omega)]; simp
          · rw [decide_eq_false g, decide_eq_false (show ¬ c + 1 ≤ d by omega)]; simp)
    refine Pc.i (fun z0 => Pc.b (fun y ey => Pc.b (fun j ej => ?_))) (fun z0 => Pc.b (fun j ej => ?_))
    · rw [ej, o_inc (by omega)]
      refine go y (fun d hd => ?_)
      rw [ey, bt_or, bt_sh (by omega), decide_eq_true z0, Bool.and_true]
    · rw [ej, o_inc (by omega)]
      refine go x (fun d hd => ?_)
      rw [decide_eq_false z0, Bool.and_false, Bool.or_false]
theorem an_stuck (h : SS M N) (hI : MI N) : R2 (mX6_stuck 0 M) (mX7_stuck 135 N) (fun p q => p.2 = q.2) := by
  obtain ⟨m, m2, em, hR⟩ := row_at hI h.1
  have n8 := nb8 (pr_9 h.1)
  have m256 := n_256 n8 m2
  unfold mX6_stuck mX7_stuck mX2_possibleSteps
  rw [em]
  refine R2.ml (pc_poss (pr_9 h.1) m2 5000 0 0 M KS.rf (by omega)) (fun M3 r2 p => ?_)
  obtain ⟨p1, V, p2⟩ := p
  have p1 : KS (SPs 103) M M3 := p1
  obtain ⟨k5, kn⟩ := SS.k103 p1
  have hV : ∀ d, d < 2 * nb 5 M → RV 5 M m d (V d) ∧ (bt r2 d = decide (V d = 0)) := fun d hd => by
    refine ⟨(p2 d hd).1 (by omega), ?_⟩
    have := (p2 d hd).2
    rw [bt_0, decide_eq_true (Nat.zero_le d)] at this
    simpa using this
  refine R2.br (fun N1 e1 => ?_)
  have hrow : row 136 N1 = row 136 N := by rw [e1]; exact row_wn (by decide)
  have lp : ∀ (f1 f2 j : Nat) (acc : Int32) (N2 : Mem), row 136 N2 = row 136 N → j ≤ nb 5 M → R2 (mX6_stuck_l23 0 f1 r2 acc (Int32.ofNat j) M3) (mX7_stuck_l9 135 f2 acc (Int32.ofNat j) N2) (fun p q => p.2 = q.2) := by
    intro f1
    induction f1 with
    | zero => intro f2 j acc N2 _ _; exact R2.nl
    | succ f1 IH =>
      intro f2 j acc N2 hr hj
      cases f2 with
      | zero => exact R2.nr
      | succ f2 =>
        have hn : (rd N2 136 0).toInt = (nb 5 M : Int) := (congrArg (fun f : Nat → Int32 => (f 0).toInt) hr).trans h.1.pb.bn
        have e52 : ∀ N3, row 136 N3 = row 136 N → rd N3 (135 + 1) ((52 : Int32)).toNatClampNeg = Int32.ofNat m := fun N3 hr3 => (congrFun hr3 52).trans (h.1.ma.symm.trans em)
        have tj : (Int32.ofNat j).toInt = (j : Int) := t_of (by omega)
        unfold mX6_stuck_l23 mX7_stuck_l9 mX6_stuck_b23 mX7_stuck_b9 mX6_stuck_b53 mX6_stuck_b73 mX7_stuck_b70 mX7_stuck_b71
        refine R2.cl (pc_bends (by rw [k5]; exact pr_9 h.1)) (fun r4 e4 => ?_)
        subst e4
        have c1 : (Int32.ofNat (nb 5 M3) ≤ Int32.ofNat j) ↔ (nb 5 M ≤ j) := by rw [i_le, kn, t_of (by omega), tj]; omega
        have c2 : ((rd N2 (135 + 1) ((0 : Int32)).toNatClampNeg) ≤ Int32.ofNat j) ↔ (nb 5 M ≤ j) := by
          show rd N2 136 0 ≤ _ ↔ _
          rw [i_le, hn, tj]; omega
        refine R2.kr (fun _ => R2.il (fun z => R2.ir (fun _ => R2.ok rfl) (fun z2 => absurd (c2.mpr (c1.mp z)) z2)) (fun z => R2.ir (fun z2 => absurd (c1.mpr (c2.mp z2)) z) (fun _ => R2.kr (fun _ => ?_))))
        have hj2 : j < nb 5 M := by
          rcases Nat.lt_or_ge j (nb 5 M) with q | q
          · exact q
          · exact absurd (c1.mpr q) z
        have hx : ∀ (ac ac2 y : Int32) (N3 : Mem), row 136 N3 = row 136 N → ac + y = ac2 → R2 (bnd (Int32.ofNat j + (1 : Int32)) (fun x3_73 => mX6_stuck_l23 0 f1 r2 ac2 x3_73 M3)) (bnd ((ac + y)) (fun x1_72 => bnd (Int32.ofNat j + (1 : Int32)) (fun x2_73 => mX7_stuck_l9 135 f2 x1_72 x2_73 N3))) (fun p q => p.2 = q.2) := fun ac ac2 y N3 hr3 e => by
          refine R2.bl (fun j1 ej1 => R2.br (fun a1 ea1 => R2.br (fun j2 ej2 => ?_)))
          rw [ej1, ej2, ea1, e, o_inc (by omega)]
          exact IH f2 (j + 1) ac2 N3 hr3 (by omega)
        rw [k5 13, em, e52 N2 hr]
        have ha0 := f_has0 m m256 j (by omega)
        have ha1 := f_has m m256 j (by omega)
        unfold mX7_has
        refine R2.il (fun d0 => ?_) (fun d0 => ?_)
        rotate_left
        · have hb1 : m.testBit j = true := by
            cases q : m.testBit j
            · exact absurd (ha0.mpr q) d0
            · rfl
          rw [show ite2 (((Int32.ofNat m >>> (Int32.ofNat j &&& 31)) &&& (1 : Int32)) = (1 : Int32)) (some (1 : Int32)) (some (0 : Int32)) = some 1 from if_pos (ha1.mpr hb1)]
          refine R2.il (fun z1 => absurd z1 (by decide)) (fun _ => R2.cr (Pc.ok (P := fun r => r = 1) rfl) (fun r7 e7 => R2.ir (fun z1 => absurd (e7 ▸ z1) (by decide)) (fun _ => hx acc acc 0 N2 hr (Int32.add_zero _))))
        have hb0 : m.testBit j = false := ha0.mp d0
        rw [show ite2 (((Int32.ofNat m >>> (Int32.ofNat j &&& 31)) &&& (1 : Int32)) = (1 : Int32)) (some (1 : Int32)) (some (0 : Int32)) = some 0 from if_neg (fun z1 => by rw [ha1.mp z1] at hb0; exact absurd hb0 (by decide))]
        refine R2.il (fun _ => R2.cr (Pc.ok (P := fun r => r = 0) rfl) (fun r7 e7 => R2.ir (fun _ => R2.kr (fun _ => ?_)) (fun z1 => absurd e7 z1))) (fun z1 => absurd rfl z1)
        rw [f_tw j (by omega)]
        have b3 := bt_get3 (x := r2) (c := 2 * j) (by omega)
        obtain ⟨v1, w1⟩ := hV (2 * j) (by omega)
        obtain ⟨v2, w2⟩ := hV (2 * j + 1) (by omega)
        rw [w1, w2] at b3
        have q1 : ∀ N3, row 136 N3 = row 136 N → Pc (mX7_reasonOf 135 (Int32.ofNat j) (0 : Int32) (Int32.ofNat m) N3) (fun q => q.2 = V (2 * j) ∧ row 136 q.1 = row 136 N) := fun N3 hr3 => by
          have := v1 N3 (by rw [hr3]; exact h.1.pb)
          rw [show 2 * j / 2 = j from by omega, show 2 * j % 2 = 0 from by omega] at this
          exact this.and (fun q e => (row_ks (vX7_reasonOf (KS.rf : KS SLy N3 N3) q e) (fun i z => by unfold SLy at z; omega)).trans hr3)
        have q2 : ∀ N3, row 136 N3 = row 136 N → Pc (mX7_reasonOf 135 (Int32.ofNat j) (1 : Int32) (Int32.ofNat m) N3) (fun q => q.2 = V (2 * j + 1) ∧ row 136 q.1 = row 136 N) := fun N3 hr3 => by
          have := v2 N3 (by rw [hr3]; exact h.1.pb)
          rw [show (2 * j + 1) / 2 = j from by omega, show (2 * j + 1) % 2 = 1 from by omega] at this
          exact this.and (fun q e => (row_ks (vX7_reasonOf (KS.rf : KS SLy N3 N3) q e) (fun i z => by unfold SLy at z; omega)).trans hr3)
        have yes : V (2 * j) = 0 ∨ V (2 * j + 1) = 0 → ∀ N3, row 136 N3 = row 136 N → R2 (ite2 (((r2 >>> (Int32.ofNat (2 * j) &&& 31)) &&& (3 : Int32)) = 0) (bnd (acc + (1 : Int32)) (fun x2_70 => bnd (Int32.ofNat j + (1 : Int32)) (fun x3_73 => mX6_stuck_l23 0 f1 r2 x2_70 x3_73 M3))) (bnd (Int32.ofNat j + (1 : Int32)) (fun x3_73 => mX6_stuck_l23 0 f1 r2 acc x3_73 M3))) (bnd ((acc + (0 : Int32))) (fun x1_72 => bnd (Int32.ofNat j + (1 : Int32)) (fun x2_73 => mX7_stuck_l9 135 f2 x1_72 x2_73 N3))) (fun p q => p.2 = q.2) := fun hz N3 hr3 => by
          refine R2.il (fun z => ?_) (fun _ => hx acc acc 0 N3 hr3 (Int32.add_zero _))
          obtain ⟨y1, y2⟩ := b3.mp z
          rcases hz with q | q
          · rw [decide_eq_true q] at y1; exact absurd y1 (by decide)
          · rw [decide_eq_true q] at y2; exact absurd y2 (by decide)
        refine R2.mr (q1 N2 hr) (fun N3 r14 p => ?_)
        obtain ⟨g1, g2⟩ := p
        have g1 : r14 = V (2 * j) := g1
        refine R2.ir (fun z => yes (Or.inl (g1.symm.trans z)) N3 g2) (fun z => R2.kr (fun _ => ?_))
        rw [e52 N3 g2]
        refine R2.mr (q2 N3 g2) (fun N4 r19 p => ?_)
        obtain ⟨g3, g4⟩ := p
        have g3 : r19 = V (2 * j + 1) := g3
        refine R2.ir (fun z => yes (Or.inr (g3.symm.trans z)) N4 g4) (fun z2 => R2.il (fun _ => ?_) (fun z3 => absurd (b3.mpr ⟨decide_eq_false (fun y => z (g1.trans y)), decide_eq_false (fun y => z2 (g3.trans y))⟩) z3))
        refine R2.bl (fun ac ea => ?_)
        exact hx acc ac 1 N4 g4 ea.symm
  exact lp 5000 5000 0 0 N1 hrow (by omega)
end SK
