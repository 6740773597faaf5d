/-! the edits, further: alike -/
section ED2
variable {g : Gm} {k n m a b s c l e : Nat} {M M' N N' N0 : Mem} {x x1 x2 x3 y1 y2 y3 v : Int32} {f f' : Nat → Int32}
theorem setDirection_RR (h : SS M N) (hx : x2 = 0 ∨ x2 = 1) : R2 (mX6_setDirection 0 x1 x2 M) (mX7_setDirection 135 x1 x2 N) (fun p q => XR nmb2 p q ∧ SS p.1 q.1) := by
  have n8 := nb8 (pr_9 h.1)
  have hn : (rd N 136 0).toInt = (nb 5 M : Int) := h.1.pb.bn
  have ns : rd M 5 14 = rd N 136 53 := h.1.ns
  have sb : 0 ≤ (rd N 136 53).toInt ∧ (rd N 136 53).toInt ≤ 8 := h.1.sb
  have n0 : ((0 : Int32)).toInt = 0 := rfl
  unfold mX6_setDirection mX7_setDirection mX7_setDirection_b21
  refine R2.cr (pc_isBend hn n8) (fun r2 p2 => R2.kr (fun _ => ?_))
  refine R2.xl (pc_reqBend h.1 hn) (fun M1 u q => ?_) (fun M1 w q => ?_)
  rotate_left
  · rcases q with ⟨e, _⟩ | ⟨e, q1⟩
    · exact absurd (congrArg Prod.snd e) (by intro z; cases z)
    · cases e
      have e2 : r2 = 0 := by
        rcases p2 with ⟨_, z⟩ | ⟨z, _⟩
        · exact absurd z q1
        · exact z
      exact R2.ir (fun _ => R2.bad2 (Or.inl ⟨e2, rfl⟩) h) (fun _ => R2.bad2 (Or.inl ⟨e2, rfl⟩) h)
  rcases q with ⟨e, q1⟩ | ⟨e, _⟩
  rotate_left
  · exact absurd (congrArg Prod.snd e) (by intro z; cases z)
  have eM : M1 = M := congrArg Prod.fst e
  subst eM
  have e2 : ¬ r2 = 0 := by
    rcases p2 with ⟨z, _⟩ | ⟨_, z⟩
    · rw [z]; decide
    · exact absurd q1 z
  refine R2.xl pc_reqFlat (fun M2 u q => ?_) (fun M2 w q => ?_)
  rotate_left
  · rcases q with ⟨e, _⟩ | ⟨e, q2⟩
    · exact absurd (congrArg Prod.snd e) (by intro z; cases z)
    · cases e
      refine R2.ir (fun z => ?_) (fun _ => R2.bad2 (Or.inr ⟨e2, rfl, rfl⟩) h)
      have z : rd N 136 53 = 0 := z
      rw [ns, z] at q2
      exact absurd q2 (by decide)
  rcases q with ⟨e, q2⟩ | ⟨e, _⟩
  rotate_left
  · exact absurd (congrArg Prod.snd e) (by intro z; cases z)
  have eM : M2 = M1 := congrArg Prod.fst e
  subst eM
  have s0 : rd N 136 53 = 0 := i_eq.mpr (by rw [ns] at q2; rw [n0]; omega)
  refine R2.ir (fun _ => R2.ok2 e2 (by decide) ?_) (fun z => absurd (show rd N 136 53 = 0 from s0) z)
  obtain ⟨b, hb, eb⟩ : ∃ b : Nat, b < nb 5 M2 ∧ x1 = Int32.ofNat b := ⟨x1.toInt.toNat, by omega, o_of q1.1⟩
  subst eb
  have tb : (Int32.ofNat b).toInt = (b : Int) := t_of (by omega)
  have n11 : ((11 : Int32)).toInt = 11 := rfl
  have ei : ((11 : Int32) + Int32.ofNat b).toNatClampNeg = 11 + b := by rw [i_clamp, i_add (by omega) (by omega)]; omega
  have core : ∀ y : Int32, y = x2 → R2 (cal (mX0_remember 21 5 M2) (fun M11 _ => cap (mX1_goesUp 5 (Int32.ofNat b) M11) (fun r13 => ite2 (r13 = x2) (chk (isB r13) (some (M11, Sum.inl r13))) (bnd (wr M11 5 2 ((rd M11 5 2) ^^^ ((1 : Int32) <<< (Int32.ofNat b &&& 31)))) (fun M17 => chk (isB r13) (some (M17, Sum.inl r13))))))) (mX7_setDirection_b41 135 ((11 : Int32) + Int32.ofNat b) y (wr N 135 5 0)) (fun p q => XR nmb2 p q ∧ SS p.1 q.1) := by
    intro y hy
    unfold mX7_setDirection_b41
    intro p q hp hq
    obtain ⟨N13, r12, u1, u2⟩ := cal_s hq
    have key := R2.set (i := (11 : Int32) + Int32.ofNat b) (v := y) (K := fun M11 => cap (mX1_goesUp 5 (Int32.ofNat b) M11) (fun r13 => ite2 (r13 = x2) (chk (isB r13) (some (M11, Sum.inl r13))) (bnd (wr M11 5 2 ((rd M11 5 2) ^^^ ((1 : Int32) <<< (Int32.ofNat b &&& 31)))) (fun M17 => chk (isB r13) (some (M17, Sum.inl r13)))))) (R := fun (p : Mem × (Int32 ⊕ Nat)) q => p.2 = Sum.inl q.2 ∧ (q.2 = 0 ∨ q.2 = 1) ∧ rd q.1 135 5 = 0 ∧ SS p.1 q.1) h.th (fun M3 N3 hS hc er e5' => ?_) p (N13, r12) hp u1
    · obtain ⟨k1, k2, k3, k4⟩ := key
      have k2 : r12 = 0 ∨ r12 = 1 := k2
      obtain ⟨p1, p2'⟩ := p
      have k1 : p2' = Sum.inl r12 := k1
      subst k1
      by_cases z : r12 = 1
      · have u2 := ite_t z u2
        cases u2
        exact ⟨XR.inl k3 z, k4⟩
      · have u2 := ite_f z u2
        cases u2
        exact ⟨XR.inl k3 (k2.resolve_right z), k4⟩
    · rw [ei]
      have hn3 : (row 136 N3 0).toInt = (nb 5 M2 : Int) := by rw [er]; show (rd (wr N 135 5 0) 136 0).toInt = _; rw [rd_wk (by decide)]; exact hn
      have ub := hS.1.ub
      have uz := hS.1.uz
      have up : ∀ b', b' < nb 5 M2 → rd N3 136 (11 + b') = if (rd M3 5 2).toInt.toNat.testBit b' then 1 else 0 := fun b' hb' => hS.1.up b' (by omega)
      refine R2.cl (pc_goesUp (b := b) ub (by omega)) (fun r13 p13 => ?_)
      have e13 : r13 = rd N3 136 (11 + b) := by rw [p13, up b hb]
      have v01 : rd N3 136 (11 + b) = 0 ∨ rd N3 136 (11 + b) = 1 := by
        rw [up b hb]
        cases (rd M3 5 2).toInt.toNat.testBit b <;> simp
      have z53 : row 136 N3 53 = 0 := by rw [er]; show rd (wr N 135 5 0) 136 53 = 0; rw [rd_wk (by decide)]; exact s0
      have t5 : rd (wr N3 136 (11 + b) y) 135 5 = 0 := by rw [rd_wk (by decide), e5']; exact rd_we
      obtain ⟨u, eu⟩ : ∃ u, (rd M3 5 2).toInt.toNat = u := ⟨_, rfl⟩
      have e2u : rd M3 5 2 = Int32.ofNat u := by rw [← eu]; exact o_of ub.1
      have u256 : u < 256 := by omega
      have hnn : (row 136 N3 0).toInt.toNat = nb 5 M2 := by omega
      rw [eu] at up
      rw [eu, hnn] at uz
      refine R2.il (fun c => R2.kl (fun _ => R2.ok ⟨by rw [e13], v01, t5, ?_⟩)) (fun c => R2.bl (fun M17 e17 => R2.kl (fun _ => R2.ok ⟨by rw [e13], v01, t5, ?_⟩)))
      · -- as it was
        have ey : y = rd N3 136 (11 + b) := by rw [hy, ← c, e13]
        refine hS.rf (fun j => ?_) (fun j => rd_wk (by decide)) (rd_wk (by decide))
        by_cases q : j = 11 + b
        · subst q; rw [rd_we]; exact ey
        · exact rd_wj q
      · rw [e2u, f_xor u u256 b (by omega)] at e17
        have x2n : u ^^^ 2 ^ b < 2 ^ nb 5 M2 := Nat.xor_lt_two_pow uz (Nat.pow_lt_pow_right (by decide) hb)
        have x256 := n_256 n8 x2n
        have tx : (Int32.ofNat (u ^^^ 2 ^ b)).toInt = ((u ^^^ 2 ^ b : Nat) : Int) := t_of (by omega)
        have hP : PR 5 M17 (row 136 (wr N3 136 (11 + b) y)) := by
          rw [e17]
          refine PR.setUps (f := row 136 N3) hS.1 (fun i hi => rd_wj (by omega)) (by rw [tx]; omega) (by rw [tx, hnn]; omega) (fun b' hb' => ?_)
          rw [hn3] at hb'
          have hb'' : b' < nb 5 M2 := by omega
          have e1 : (Int32.ofNat (u ^^^ 2 ^ b)).toInt.toNat = u ^^^ 2 ^ b := by rw [tx]; omega
          rw [e1, Nat.testBit_xor, Nat.testBit_two_pow]
          by_cases q : b' = b
          · subst q
            show rd (wr N3 136 (11 + b') y) 136 (11 + b') = _
            rw [rd_we, decide_eq_true rfl]
            rw [e13, up b' hb''] at c
            rw [hy]
            cases hu : u.testBit b' with
            | true =>
              rw [hu] at c
              have : x2 = 0 := hx.resolve_right (fun z => c (by rw [z]; rfl))
              rw [this]; rfl
            | false =>
              rw [hu] at c
              have : x2 = 1 := hx.resolve_left (fun z => c (by rw [z]; rfl))
              rw [this]; rfl
          · show rd (wr N3 136 (11 + b) y) 136 (11 + b') = _
            rw [rd_wj (by omega), up b' hb'', decide_eq_false (fun z => q z.symm)]
            cases u.testBit b' <;> simp
        have k17 : KS (fun c _ => 5 ≤ c ∧ c < 13) M3 M17 := by rw [e17]; exact KS.rf.wr (by omega)
        have l17 : KL M3 M17 := by rw [e17]; exact KL.rf.wr
        refine hS.row (f := row 136 (wr N3 136 (11 + b) y)) hP rfl (RI.flat ?_) (fun c j hc => k17 c j (by omega)) (fun c j hc => rd_wk (by omega)) (hS.2.2.2.2.p5 k17 l17)
        show rd (wr N3 136 (11 + b) y) 136 53 = 0
        rw [rd_wj (by omega)]; exact z53
  rcases hx with e | e
  · exact R2.ir (fun _ => core 0 e.symm) (fun z => absurd e z)
  · exact R2.ir (fun z => by rw [e] at z; exact absurd z (by decide)) (fun _ => core 1 e.symm)
theorem pc_a0 {w : Nat} {lo hi : Int} (e0 : (wF0.getD w 0).toInt = lo) (e1 : (wF1.getD w 0).toInt = hi) : Pc (mX5_allows w (0 : Int32) v M) (fun r => (r = 1 ∧ lo ≤ v.toInt ∧ v.toInt ≤ hi) ∨ (r = 0 ∧ ¬ (lo ≤ v.toInt ∧ v.toInt ≤ hi))) := by
  refine (pc_al (w := w) 0 v).mono (fun r hr => ?_)
  rw [e0, e1] at hr
  rcases hr with ⟨q, ⟨_, q2⟩ | ⟨q2, _⟩ | ⟨q2, _⟩⟩ | ⟨q, ⟨_, q2⟩ | ⟨q2, _⟩ | ⟨q2, _⟩⟩
  · exact Or.inl ⟨q, q2⟩
  · exact absurd rfl q2
  · exact absurd rfl q2
  · exact Or.inr ⟨q, q2⟩
  · exact absurd rfl q2
  · exact absurd rfl q2
theorem pc_a1 {w : Nat} {hi : Int} (e1 : (wF2.getD w 0).toInt = hi) : Pc (mX5_allows w (1 : Int32) v M) (fun r => (r = 1 ∧ 0 ≤ v.toInt ∧ v.toInt ≤ hi) ∨ (r = 0 ∧ ¬ (0 ≤ v.toInt ∧ v.toInt ≤ hi))) := by
  refine (pc_al (w := w) 1 v).mono (fun r hr => ?_)
  rw [e1] at hr
  rcases hr with ⟨q, ⟨q2, _⟩ | ⟨_, _, q2⟩ | ⟨_, q2, _⟩⟩ | ⟨q, ⟨q2, _⟩ | ⟨_, _, q2⟩ | ⟨_, q2, _⟩⟩
  · exact absurd q2 (by decide)
  · exact Or.inl ⟨q, q2⟩
  · exact absurd rfl q2
  · exact absurd q2 (by decide)
  · exact Or.inr ⟨q, q2⟩
  · exact absurd rfl q2
theorem pc_a2 {w : Nat} {hi : Int} (e1 : (wF3.getD w 0).toInt = hi) : Pc (mX5_allows w (2 : Int32) v M) (fun r => (r = 1 ∧ 0 ≤ v.toInt ∧ v.toInt ≤ hi) ∨ (r = 0 ∧ ¬ (0 ≤ v.toInt ∧ v.toInt ≤ hi))) := by
  refine (pc_al (w := w) 2 v).mono (fun r hr => ?_)
  rw [e1] at hr
  rcases hr with ⟨q, ⟨q2, _⟩ | ⟨_, q2, _⟩ | ⟨_, _, q2⟩⟩ | ⟨q, ⟨q2, _⟩ | ⟨_, q2, _⟩ | ⟨_, _, q2⟩⟩
  · exact absurd q2 (by decide)
  · exact absurd q2 (by decide)
  · exact Or.inl ⟨q, q2⟩
  · exact absurd q2 (by decide)
  · exact absurd q2 (by decide)
  · exact Or.inr ⟨q, q2⟩
/-- a range asked for by both -/
theorem R2.rng {α β : Type} {R : α → β → Prop} {X Y : Option Int32} {P : Prop} {xa : Option α} {xb : Option β} {ya : Option α} {yb : Option β} (hX : Pc X (fun r => (r = 1 ∧ P) ∨ (r = 0 ∧ ¬ P))) (hY : Pc Y (fun r => (r = 1 ∧ P) ∨ (r = 0 ∧ ¬ P))) (h0 : ¬ P → R2 xa xb R) (h1 : P → R2 ya yb R) : R2 (cap X (fun r => ite2 (r = 0) xa ya)) (cap Y (fun r => ite2 (r = 0) xb yb)) R := by
  refine R2.cl hX (fun r p => R2.cr hY (fun r' p' => ?_))
  rcases p with ⟨e, q⟩ | ⟨e, q⟩
  · rcases p' with ⟨e', _⟩ | ⟨_, q'⟩
    · subst e
      subst e'
      exact R2.il (fun z => absurd z (by decide)) (fun _ => R2.ir (fun z => absurd z (by decide)) (fun _ => h1 q))
    · exact absurd q q'
  · rcases p' with ⟨_, q'⟩ | ⟨e', _⟩
    · exact absurd q' q
    · subst e
      subst e'
      exact R2.il (fun _ => R2.ir (fun _ => h0 q) (fun z => absurd rfl z)) (fun z => absurd rfl z)
theorem setSheet_RR (h : SS M N) : R2 (mX6_setSheet 0 x1 x2 x3 M) (mX7_setSheet 135 x1 x2 x3 N) (fun p q => XR (fun _ => 1) p q ∧ SS p.1 q.1) := by
  unfold mX6_setSheet mX7_setSheet mX6_setSheet_b33 mX7_setSheet_b41 mX7_setSheet_b42
  have bt := fun (y : Int32) {lo hi : Int64} {a b : Int} (e1 : lo.toInt = a) (e2 : hi.toInt = b) => (pc_btw (M := N) (Int32.toInt_toInt64 y) e1 e2).mono (fun r (hr : (r = 1 ∧ a ≤ y.toInt ∧ y.toInt ≤ b) ∨ (r = 0 ∧ ¬ (a ≤ y.toInt ∧ y.toInt ≤ b))) => hr)
  refine R2.rng (P := 1 ≤ x1.toInt ∧ x1.toInt ≤ 60) (pc_a0 (w := 0) rfl rfl) (bt x1 rfl rfl) (fun _ => R2.bad1 rfl rfl h) (fun _ => ?_)
  refine R2.rng (P := 0 ≤ x2.toInt ∧ x2.toInt ≤ 200) (pc_a1 (w := 0) rfl) (bt x2 rfl rfl) (fun _ => R2.bad1 rfl rfl h) (fun _ => ?_)
  refine R2.rng (P := 0 ≤ x3.toInt ∧ x3.toInt ≤ 100) (pc_a2 (w := 0) rfl) (bt x3 rfl rfl) (fun _ => R2.bad1 rfl rfl h) (fun _ => ?_)
  refine R2.ok1 (by decide) ?_
  intro p q hp hq
  obtain ⟨N11, r10, u1, u2⟩ := cal_s hq
  have u2 := (chk_s u2).2
  obtain ⟨N14, e14, u2⟩ := bnd_s u2
  have u2 := (chk_s u2).2
  obtain ⟨N17, e17, u2⟩ := bnd_s u2
  cases u2
  refine R2.set (i := (36 : Int32)) (v := x1) (K := fun M15 => bnd ((rd M15 5 3)) (fun x4_62 => cal (mX1_putSheet 5 x1 x2 x3 M15) (fun M19 _ => some (M19, Sum.inl x4_62)))) (R := fun p q => XR (fun _ => 1) p (wr (wr q.1 136 37 x2) 136 38 x3, q.2) ∧ SS p.1 (wr (wr q.1 136 37 x2) 136 38 x3)) h.th (fun M3 N3 hS hc er e5' => ?_) p (N11, r10) hp u1 |> fun w => ?_
  rotate_left
  · refine R2.bl (fun x4 ex => ?_)
    unfold mX1_putSheet
    simp only [cal_bnd, cal_some]
    refine R2.bl (fun M1 e1 => R2.bl (fun M2 e2 => R2.bl (fun M4 e4 => R2.ok ⟨XR.inl ?_ ?_, ?_⟩)))
    · show rd (wr (wr (wr N3 136 36 x1) 136 37 x2) 136 38 x3) 135 5 = 0
      rw [rd_wk (by decide), rd_wk (by decide), rd_wk (by decide), e5']; exact rd_we
    · rw [ex]; exact hS.1.sh.1
    · have hP : PR 5 M4 (upf (upf (upf (row 136 N3) 36 x1) 37 x2) 38 x3) := by rw [e4, e2, e1]; exact hS.1.sheet
      have k20 : KS (fun c _ => 5 ≤ c ∧ c < 13) M3 M4 := by rw [e4, e2, e1]; exact ((KS.rf.wr (by omega)).wr (by omega)).wr (by omega)
      have l20 : KL M3 M4 := by rw [e4, e2, e1]; exact KL.rf.wr.wr.wr
      refine hS.row (f := upf (upf (upf (row 136 N3) 36 x1) 37 x2) 38 x3) hP ?_ (hS.2.2.1.upd (fun i hi => by rw [upf_n (by omega), upf_n (by omega), upf_n (by omega)])) (fun c j hc => k20 c j (by omega)) (fun c j hc => ?_) (hS.2.2.2.2.p5 k20 l20)
      · rw [row_wr, row_wr]
        show upf (upf (row 136 (wr N3 136 36 x1)) 37 x2) 38 x3 = _
        rw [row_wr]
      · rw [rd_wk (by omega), rd_wk (by omega), rd_wk (by omega)]
  · rw [e17, e14]; exact w
theorem setCost_RR (h : SS M N) : R2 (mX6_setCost 0 x1 x2 x3 M) (mX7_setCost 135 x1 x2 x3 N) (fun p q => XR (fun _ => 1) p q ∧ SS p.1 q.1) := by
  unfold mX6_setCost mX7_setCost mX6_setCost_b33 mX7_setCost_b41 mX7_setCost_b42
  have bt := fun (y : Int32) {lo hi : Int64} {a b : Int} (e1 : lo.toInt = a) (e2 : hi.toInt = b) => (pc_btw (M := N) (Int32.toInt_toInt64 y) e1 e2).mono (fun r (hr : (r = 1 ∧ a ≤ y.toInt ∧ y.toInt ≤ b) ∨ (r = 0 ∧ ¬ (a ≤ y.toInt ∧ y.toInt ≤ b))) => hr)
  refine R2.rng (P := 0 ≤ x1.toInt ∧ x1.toInt ≤ 99) (pc_a0 (w := 10) rfl rfl) (bt x1 rfl rfl) (fun _ => R2.bad1 rfl rfl h) (fun _ => ?_)
  refine R2.rng (P := 0 ≤ x2.toInt ∧ x2.toInt ≤ 99) (pc_a1 (w := 10) rfl) (bt x2 rfl rfl) (fun _ => R2.bad1 rfl rfl h) (fun _ => ?_)
  refine R2.rng (P := 0 ≤ x3.toInt ∧ x3.toInt ≤ 99) (pc_a2 (w := 10) rfl) (bt x3 rfl rfl) (fun _ => R2.bad1 rfl rfl h) (fun _ => ?_)
  refine R2.ok1 (by decide) ?_
  intro p q hp hq
  obtain ⟨N11, r10, u1, u2⟩ := cal_s hq
  have u2 := (chk_s u2).2
  obtain ⟨N14, e14, u2⟩ := bnd_s u2
  have u2 := (chk_s u2).2
  obtain ⟨N17, e17, u2⟩ := bnd_s u2
  cases u2
  refine R2.set (i := (49 : Int32)) (v := x1) (K := fun M15 => bnd ((rd M15 5 7)) (fun x4_62 => cal (mX1_putCosts 5 x1 x2 x3 M15) (fun M19 _ => some (M19, Sum.inl x4_62)))) (R := fun p q => XR (fun _ => 1) p (wr (wr q.1 136 50 x2) 136 51 x3, q.2) ∧ SS p.1 (wr (wr q.1 136 50 x2) 136 51 x3)) h.th (fun M3 N3 hS hc er e5' => ?_) p (N11, r10) hp u1 |> fun w => ?_
  rotate_left
  · refine R2.bl (fun x4 ex => ?_)
    unfold mX1_putCosts
    simp only [cal_bnd, cal_some]
    refine R2.bl (fun M1 e1 => R2.bl (fun M2 e2 => R2.bl (fun M4 e4 => R2.ok ⟨XR.inl ?_ ?_, ?_⟩)))
    · show rd (wr (wr (wr N3 136 49 x1) 136 50 x2) 136 51 x3) 135 5 = 0
      rw [rd_wk (by decide), rd_wk (by decide), rd_wk (by decide), e5']; exact rd_we
    · rw [ex]; exact hS.1.co.1
    · have hP : PR 5 M4 (upf (upf (upf (row 136 N3) 49 x1) 50 x2) 51 x3) := by rw [e4, e2, e1]; exact hS.1.costs
      have k20 : KS (fun c _ => 5 ≤ c ∧ c < 13) M3 M4 := by rw [e4, e2, e1]; exact ((KS.rf.wr (by omega)).wr (by omega)).wr (by omega)
      have l20 : KL M3 M4 := by rw [e4, e2, e1]; exact KL.rf.wr.wr.wr
      refine hS.row (f := upf (upf (upf (row 136 N3) 49 x1) 50 x2) 51 x3) hP ?_ (hS.2.2.1.upd (fun i hi => by rw [upf_n (by omega), upf_n (by omega), upf_n (by omega)])) (fun c j hc => k20 c j (by omega)) (fun c j hc => ?_) (hS.2.2.2.2.p5 k20 l20)
      · rw [row_wr, row_wr]
        show upf (upf (row 136 (wr N3 136 49 x1)) 50 x2) 51 x3 = _
        rw [row_wr]
      · rw [rd_wk (by omega), rd_wk (by omega), rd_wk (by omega)]
  · rw [e17, e14]; exact w
end ED2
