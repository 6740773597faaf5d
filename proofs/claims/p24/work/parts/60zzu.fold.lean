/-! remembering; a step made: alike -/
section FO
variable {g : Gm} {n m a b s c l e : Nat} {M M' N N' N0 : Mem} {lc lg r x x1 : Int32}
theorem hi_rem (h : HI N) (hr : RI (row 136 N)) (h4 : rd N 135 4 = Int32.ofNat e) (he : e ≤ 10) : Pc (mX7_remember 135 N) (fun q => HI q.1) := by
  refine (pc_remR h4 he).mono (fun q hq => ?_)
  obtain ⟨_, hq⟩ := hq
  intro i hi hlt
  rcases hq with ⟨lt, n4, nr, nw⟩ | ⟨e10, n4, nr, nw⟩
  · rw [n4, t_of (by omega)] at hlt
    by_cases q1 : i = e
    · subst q1
      exact hr.cong (fun p hp => nw p hp)
    · refine (h i hi (by rw [h4, t_of (by omega)]; omega)).cong (fun p hp => nr _ (by omega))
  · rw [n4, show ((10 : Int32)).toInt = 10 from rfl] at hlt
    by_cases q1 : i = 9
    · subst q1
      exact hr.cong (fun p hp => nw p hp)
    · refine (h (i + 1) (by omega) (by rw [h4, t_of (by omega)]; omega)).cong (fun p hp => ?_)
      show rd q.1 139 (86 * i + p) = rd N 139 (86 * (i + 1) + p)
      rw [nr _ (by omega), show 86 * i + p + 86 = 86 * (i + 1) + p by omega]
/-- both remember: what both hold stays -/
theorem rem_S (h : SS M N) : R2 (mX0_remember 21 5 M) (mX7_remember 135 N) (fun p q => SS p.1 q.1 ∧ KS SHc M p.1 ∧ KS SHi N q.1) := by
  obtain ⟨e, o, h4, h2, h1, he, ho, hr⟩ := id h.2.1
  intro p q hp hq
  obtain ⟨r1, r2, r3⟩ := rem_R h.2.1 h.1 p q hp hq
  have hi := hi_rem h.2.2.2.1 h.2.2.1 h4 he q hq
  have kl : KL M p.1 := lX0_remember (k0 := 21) (k1 := 5) (KL.rf : KL M M) p hp
  have er : row 136 q.1 = row 136 N := row_ks r3 (fun j z => by unfold SHi at z; omega)
  refine ⟨⟨?_, r1, by rw [er]; exact h.2.2.1, hi, h.2.2.2.2.ks r2 (fun c j _ _ _ z => by unfold SHc at z; omega) (fun j => kl.rl j)⟩, r2, r3⟩
  rw [er]
  exact h.1.ks r2 (fun c j _ _ z => by unfold SHc at z; omega)
/-- a state with another row -/
theorem SS.row {f : Nat → Int32} (h : SS M N) (hP : PR 5 M' f) (ef : row 136 N' = f) (hR : RI f) (hc : ∀ c j, c = 21 ∨ (23 ≤ c ∧ c < 103) → rd M' c j = rd M c j) (hn : ∀ c j, c = 139 ∨ (c = 135 ∧ j = 4) → rd N' c j = rd N c j) (hv : PV M') : SS M' N' := by
  refine ⟨by rw [ef]; exact hP, h.2.1.ks hc hn, by rw [ef]; exact hR, fun i hi hlt => ?_, hv⟩
  rw [hn 135 4 (Or.inr ⟨rfl, rfl⟩)] at hlt
  have eq : (fun j => rd N' 139 (86 * i + j)) = (fun j => rd N 139 (86 * i + j)) := funext (fun j => hn _ _ (Or.inl rfl))
  rw [eq]; exact h.2.2.2.1 i hi hlt
/-- the gauge that the class finds holds in every state with these legs -/
theorem gauge_Vr {f : Nat → Int32} (hP : PR 5 M f) (ha : a < 2 ^ nb 5 M) (hc : c < 2 * nb 5 M) {x : Mem × Int32} (hx : cal (mX2_layStep 103 5 (Int32.ofNat a) (Int32.ofNat c) M) (fun M1 _ => cap (mX2_reachToBack 103 M1) (fun r => some (M1, r))) = some x) : GVr f a c x.2 := by
  intro N hN q e'
  have hG : PG 5 M (row 136 N) := hP.pb.pg.congr (fun j hj => hN j hj)
  have hn : (rd N 136 0).toInt = (nb 5 M : Int) := by rw [hN 0 (by omega)]; exact hP.pb.bn
  have h := gaugeOf_G (k := 103) (b := c / 2) (s := c % 2) (by omega) hG hn (by omega) (by omega) ha
  rw [show 2 * (c / 2) + c % 2 = c by omega] at h
  exact ((h x q hx e').1).symm
theorem makeStep_R (h : SS M N) (hR : Row (nb 5 M) m (rd N 136)) (hm : rd M 5 13 = Int32.ofNat m) (hb : b < nb 5 M) (hs : s < 2) (tb : m.testBit b = false) : R2 (mX6_makeStep 0 (Int32.ofNat (2 * b + s)) M) (mX7_foldNow 135 (Int32.ofNat b) (Int32.ofNat s) N) (fun p q => p.2 = q.2 ∧ SS p.1 q.1 ∧ rd q.1 135 5 = rd N 135 5) := by
  have n8 := nb8 (pr_9 h.1)
  have m2 := hR.2.2.2.1
  have m256 := n_256 n8 m2
  have hn : (rd N 136 0).toInt = (nb 5 M : Int) := h.1.pb.bn
  have hQ : SQ (nb 5 M) (row 136 N) := h.2.2.1.2.1 _ hn
  obtain ⟨_, _, _, _, _, k, e53, hk, _⟩ := hR
  have hz := z_set (nb 5 M) (by omega) m m2 b hb tb
  have k8 : k < 8 := by omega
  have n11 : ((1 : Int32)).toInt = 1 := rfl
  unfold mX6_makeStep mX7_foldNow
  intro p q hp hq
  obtain ⟨M3, r2, p1, p2⟩ := cal_s hp
  obtain ⟨M6, _, p3, p4⟩ := cal_s p2
  obtain ⟨M9, r8, p5, p6⟩ := cal_s p4
  obtain ⟨M12, _, p7, p8⟩ := cal_s p6
  cases p8
  obtain ⟨N3, q2, u1, u2⟩ := cal_s hq
  have u2 := (chk_s u2).2
  obtain ⟨N7, q6, u3, u4⟩ := cal_s u2
  obtain ⟨N10, _, u5, u6⟩ := cal_s u4
  -- the cost
  obtain ⟨c1, c2, c3⟩ := costNow_R h.1 hn hQ hb hs hm m2 _ _ p1 u1
  have c1 : r2 = q2 := c1
  have c2 : KS (SPs 103) M M3 := c2
  have c3 : KS SRl N N3 := c3
  have l3 : KL M M3 := lX6_costNow (k0 := 0) (KL.rf : KL M M) _ p1
  have S3 : SS M3 N3 := (h.pl c2 l3 (fun c j z => by unfold SPs at z; omega)).ks c3 (fun c j hc z => by unfold SRl at z; omega)
  have b3 : BL 5 M 5 M3 := BL.ks c2 (fun c j h1 h2 z => by unfold SPs at z; omega)
  have e52 : rd N3 (135 + 1) ((52 : Int32)).toNatClampNeg = Int32.ofNat m := by
    show rd N3 136 52 = _
    rw [c3 136 52 (by unfold SRl; omega)]
    exact h.1.ma.symm.trans hm
  rw [e52] at u3
  -- what a gauge writes in the reference
  have hn3 : (rd N3 136 0).toInt = (nb 5 M : Int) := by rw [c3 136 0 (by unfold SRl; omega)]; exact hn
  have k7 : KS SLy N3 N7 := vX7_gaugeOf (KS.rf : KS SLy N3 N3) _ u3
  have S37 : SS M3 N7 := S3.sly k7
  obtain ⟨S6, k6, k10⟩ := rem_S S37 _ _ p3 u5
  have S6 : SS M6 N10 := S6
  have k6 : KS SHc M3 M6 := k6
  have k10 : KS SHi N7 N10 := k10
  have b6 : BL 5 M3 5 M6 := BL.ks k6 (fun c j h1 h2 z => by unfold SHc at z; omega)
  have er7 : row 136 N7 = row 136 N3 := sly_row k7
  have er10 : row 136 N10 = row 136 N7 := row_ks k10 (fun j z => by unfold SHi at z; omega)
  have P6 : PR 5 M6 (row 136 N3) := by rw [← er7, ← er10]; exact S6.1
  have m6 : rd M6 5 13 = Int32.ofNat m := by
    rw [k6 5 13 (by unfold SHc; omega), c2 5 13 (by unfold SPs; omega)]; exact hm
  unfold mX6_gaugeNow at p5
  rw [m6] at p5
  have en6 : nb 5 M6 = nb 5 M := b6.bn.trans b3.bn
  obtain ⟨g1, g2, _⟩ := gaugeOf_G (k := 103) (k1 := 5) (b := b) (s := s) (by omega) P6.pb.pg hn3 hb hs m2 _ _ p5 u3
  have g1 : r8 = q6 := g1
  have g2 : KS (SPs 103) M6 M9 := g2
  have l9 : KL M6 M9 := by
    have := lX6_gaugeNow (k0 := 0) (x1 := Int32.ofNat (2 * b + s)) (KL.rf : KL M6 M6) (M9, r8) (by unfold mX6_gaugeNow; rw [m6]; exact p5)
    exact this
  have S9 : SS M9 N10 := S6.pl g2 l9 (fun c j z => by unfold SPs at z; omega)
  have b9 : BL 5 M6 5 M9 := BL.ks g2 (fun c j h1 h2 z => by unfold SPs at z; omega)
  have hGV : GVr (row 136 N10) m (2 * b + s) r8 := gauge_Vr (M := M6) (x := (M9, r8)) S6.1 (by rw [en6]; exact m2) (by rw [en6]; omega) p5
  have m9 : rd M9 5 13 = Int32.ofNat m := (g2 5 13 (by unfold SPs; omega)).trans m6
  -- the number of steps
  have e53' : ∀ T : Mem, SS M9 T → (∀ j, rd T 136 j = rd N10 136 j) → True := fun _ _ _ => trivial
  have f53 : rd N10 136 53 = Int32.ofNat k := by
    have a1 : rd N10 136 53 = rd N7 136 53 := congrFun er10 53
    have a2 : rd N7 136 53 = rd N3 136 53 := congrFun er7 53
    rw [a1, a2, c3 136 53 (by unfold SRl; omega)]; exact e53
  have f52 : rd N10 136 52 = Int32.ofNat m := S9.1.ma.symm.trans m9
  have d14 : rd M9 5 14 = Int32.ofNat k := by
    have a : rd M9 5 14 = rd N10 136 53 := S9.1.ns
    rw [a, f53]
  have tk : (Int32.ofNat k).toInt = (k : Int) := t_of (by omega)
  have ck : (Int32.ofNat k).toNatClampNeg = k := c_of (by omega)
  -- the class writes
  have cls : M12 = wr (wr (wr (wr (wr M9 (5 + 5) k (Int32.ofNat (2 * b + s))) (5 + 6) k r8) (5 + 7) k r2) 5 14 (Int32.ofNat k + 1)) 5 13 (Int32.ofNat (m ||| 2 ^ b)) := by
    unfold mX1_addStep at p7
    rw [d14] at p7
    have nk : ¬ (8 : Int32) ≤ Int32.ofNat k := fun z => by
      have z := i_le.mp z
      rw [tk, show ((8 : Int32)).toInt = 8 from rfl] at z; omega
    have p7 := (chk_s (ite_f nk p7)).2
    obtain ⟨M4, w1, p7⟩ := bnd_s p7
    have d4 : rd M4 5 14 = Int32.ofNat k := by rw [w1, rd_wk (by decide)]; exact d14
    rw [d4] at p7
    have p7 := (chk_s p7).2
    obtain ⟨M5, w2, p7⟩ := bnd_s p7
    have d5 : rd M5 5 14 = Int32.ofNat k := by rw [w2, rd_wk (by decide)]; exact d4
    rw [d5] at p7
    have p7 := (chk_s p7).2
    obtain ⟨M7, w3, p7⟩ := bnd_s p7
    have d7 : rd M7 5 14 = Int32.ofNat k := by rw [w3, rd_wk (by decide)]; exact d5
    obtain ⟨M8, w4, p7⟩ := bnd_s p7
    obtain ⟨M9', w5, p7⟩ := bnd_s p7
    cases p7
    have d8 : rd M8 5 13 = Int32.ofNat m := by rw [w4, rd_wj (by decide), w3, rd_wk (by decide), w2, rd_wk (by decide), w1, rd_wk (by decide)]; exact m9
    rw [w5, d8, f_shr1 (2 * b + s) (by omega), show (2 * b + s) / 2 = b by omega, f_or m m256 b (by omega), w4, d7, w3, w2, w1, ck]
  -- the reference writes
  have n54 : ((54 : Int32)).toInt = 54 := rfl
  have i54 : ((54 : Int32) + (4 : Int32) * Int32.ofNat k).toInt = 54 + 4 * (k : Int) := by
    rw [i_add, i_mulc (a := (4 : Int32)) (c := 4) rfl (by omega) (by omega), tk]
    · rfl
    · rw [i_mulc (a := (4 : Int32)) (c := 4) rfl (by omega) (by omega)]; omega
    · rw [i_mulc (a := (4 : Int32)) (c := 4) rfl (by omega) (by omega)]; omega
  have u6 := (chk_s u6).2
  have e53x : rd N10 (135 + 1) ((53 : Int32)).toNatClampNeg = Int32.ofNat k := f53
  rw [e53x] at u6
  obtain ⟨x5, v0, u6⟩ := bnd_s u6
  have t5 : x5.toInt = 54 + 4 * (k : Int) := by rw [v0]; exact i54
  have cx : ∀ d : Int32, 0 ≤ d.toInt → d.toInt ≤ 3 → (x5 + d).toNatClampNeg = 54 + 4 * k + d.toInt.toNat := fun d h1 h2 => by
    rw [i_clamp, i_add (by omega) (by omega), t5]; omega
  have cx0 : x5.toNatClampNeg = 54 + 4 * k := by rw [i_clamp, t5]; omega
  have cx1 : (x5 + (1 : Int32)).toNatClampNeg = 55 + 4 * k := by rw [cx 1 (by decide) (by decide)]; rw [n11]; omega
  have cx2 : (x5 + (2 : Int32)).toNatClampNeg = 56 + 4 * k := by rw [cx 2 (by decide) (by decide), show ((2 : Int32)).toInt = 2 from rfl]; omega
  have cx3 : (x5 + (3 : Int32)).toNatClampNeg = 57 + 4 * k := by rw [cx 3 (by decide) (by decide), show ((3 : Int32)).toInt = 3 from rfl]; omega
  have u6 := (chk_s u6).2
  obtain ⟨N15, v1, u6⟩ := bnd_s u6
  have u6 := (chk_s u6).2
  obtain ⟨N18, v2, u6⟩ := bnd_s u6
  have u6 := (chk_s u6).2
  obtain ⟨N21, v3, u6⟩ := bnd_s u6
  have u6 := (chk_s u6).2
  obtain ⟨N24, v4, u6⟩ := bnd_s u6
  have u6 := (chk_s (chk_s u6).2).2
  obtain ⟨N28, v5, u6⟩ := bnd_s u6
  have u6 := (chk_s (chk_s u6).2).2
  obtain ⟨N32, v6, u6⟩ := bnd_s u6
  cases u6
  rw [cx0] at v1
  rw [cx1] at v2
  rw [cx2] at v3
  rw [cx3] at v4
  have ref : N32 = wr (wr (wr (wr (wr (wr N10 136 (54 + 4 * k) (Int32.ofNat b)) 136 (55 + 4 * k) (Int32.ofNat s)) 136 (56 + 4 * k) q6) 136 (57 + 4 * k) q2) 136 53 (Int32.ofNat k + 1)) 136 52 (Int32.ofNat (m ||| 2 ^ b)) := by
    have y1 : rd N24 (135 + 1) ((53 : Int32)).toNatClampNeg = Int32.ofNat k := by
      show rd N24 136 53 = _
      rw [v4, rd_wj (by omega), v3, rd_wj (by omega), v2, rd_wj (by omega), v1, rd_wj (by omega)]; exact f53
    rw [y1] at v5
    have y2 : rd N28 (135 + 1) ((52 : Int32)).toNatClampNeg = Int32.ofNat m := by
      show rd N28 136 52 = _
      rw [v5]
      show rd (wr N24 136 53 _) 136 52 = _
      rw [rd_wj (by omega), v4, rd_wj (by omega), v3, rd_wj (by omega), v2, rd_wj (by omega), v1, rd_wj (by omega)]; exact f52
    rw [y2, f_or m m256 b (by omega)] at v6
    rw [v6, v5, v4, v3, v2, v1]
    rfl
  have nx : ∀ (c j : Nat), c ≠ 136 → rd N32 c j = rd N10 c j := fun c j hc => by
    rw [ref, rd_wk hc, rd_wk hc, rd_wk hc, rd_wk hc, rd_wk hc, rd_wk hc]
  have ny : ∀ j, j ≠ 52 → j ≠ 53 → ¬ (54 + 4 * k ≤ j ∧ j < 58 + 4 * k) → rd N32 136 j = rd N10 136 j := fun j h1 h2 h3 => by
    rw [ref, rd_wj h1, rd_wj h2, rd_wj (by omega), rd_wj (by omega), rd_wj (by omega), rd_wj (by omega)]
  have z52 : rd N32 136 52 = Int32.ofNat (m ||| 2 ^ b) := by rw [ref, rd_we]
  have z53 : rd N32 136 53 = Int32.ofNat k + 1 := by rw [ref, rd_wj (by omega), rd_we]
  have z54 : rd N32 136 (54 + 4 * k) = Int32.ofNat b := by
    rw [ref, rd_wj (by omega), rd_wj (by omega), rd_wj (by omega), rd_wj (by omega), rd_wj (by omega), rd_we]
  have z55 : rd N32 136 (55 + 4 * k) = Int32.ofNat s := by
    rw [ref, rd_wj (by omega), rd_wj (by omega), rd_wj (by omega), rd_wj (by omega), rd_we]
  have z56 : rd N32 136 (56 + 4 * k) = q6 := by
    rw [ref, rd_wj (by omega), rd_wj (by omega), rd_wj (by omega), rd_we]
  have z57 : rd N32 136 (57 + 4 * k) = q2 := by
    rw [ref, rd_wj (by omega), rd_wj (by omega), rd_we]
  have tb' : (Int32.ofNat b).toInt = (b : Int) := t_of (by omega)
  have ts' : (Int32.ofNat s).toInt = (s : Int) := t_of (by omega)
  have ek1 : Int32.ofNat k + 1 = Int32.ofNat (k + 1) := (Int32.ofNat_add k 1).symm
  have tk1 : (Int32.ofNat (k + 1)).toInt = ((k + 1 : Nat) : Int) := t_of (by omega)
  refine ⟨c1, S9.row (f := row 136 N32) ?_ rfl ?_ ?_ (fun c j hc => nx c j (by omega)) ?_, ?_⟩
  · show PR 5 M12 _
    rw [cls]
    refine PR.step (n := k) (c := Int32.ofNat (2 * b + s)) (ga := r8) (co := r2) (f := row 136 N10) S9.1 (by show (rd N10 136 53).toInt = _; rw [f53]; exact tk) k8 (fun i hi => ny i (by omega) (by omega) (by omega)) (fun i h1 h2 => ny i (by omega) (by omega) h2) (by rw [ek1, tk1]; omega) z53 z52 ?_ ?_ ?_
    · show _ = 2 * (rd N32 136 (54 + 4 * k)).toInt + (rd N32 136 (55 + 4 * k)).toInt
      rw [z54, z55, tb', ts', t_of (by omega)]; omega
    · show rd N32 136 (56 + 4 * k) = r8
      rw [z56, g1]
    · show rd N32 136 (57 + 4 * k) = r2
      rw [z57, c1]
  · -- the row's own
    refine ⟨?_, fun n hn' j hj => ?_, fun j m' h53 hj8 h52 hm' => ?_⟩
    · show (rd N32 136 53).toInt ≤ 8
      rw [z53, ek1, tk1]; omega
    · have hn10 : (rd N10 136 0).toInt = (n : Int) := by rw [← ny 0 (by omega) (by omega) (by omega)]; exact hn'
      have en : n = nb 5 M := by
        have a := S9.1.pb.bn
        have a : (rd N10 136 0).toInt = (nb 5 M9 : Int) := a
        have : nb 5 M9 = nb 5 M := b9.bn.trans en6
        omega
      have hj : (j : Int) < (rd N32 136 53).toInt := hj
      rw [z53, ek1, tk1] at hj
      show (0 ≤ (rd N32 136 (54 + 4 * j)).toInt ∧ (rd N32 136 (54 + 4 * j)).toInt < _) ∧ 0 ≤ (rd N32 136 (55 + 4 * j)).toInt ∧ (rd N32 136 (55 + 4 * j)).toInt ≤ 1
      by_cases e : j = k
      · subst e
        rw [z54, z55, tb', ts']; omega
      · rw [ny _ (by omega) (by omega) (by omega), ny _ (by omega) (by omega) (by omega)]
        have a := S9.2.2.1.2.1 n hn10 j (by show (j : Int) < (rd N10 136 53).toInt; rw [f53, tk]; omega)
        exact a
    · have h53 : rd N32 136 53 = Int32.ofNat (j + 1) := h53
      rw [z53, ek1] at h53
      have ej : j = k := by have := o_inj (by omega) (by omega) h53; omega
      subst ej
      have h52 : rd N32 136 52 = Int32.ofNat m' := h52
      rw [z52] at h52
      have h256 := n_256 n8 hz.2.2.1
      have em : m ||| 2 ^ b = m' := o_inj (by omega) (by omega) h52
      have no := n_off2 m m256 b (by omega) tb
      refine ⟨2 * b + s, by omega, ?_, ?_, ?_, ?_⟩
      · show (rd N32 136 (54 + 4 * j)).toInt = _
        rw [z54, tb']; omega
      · show (rd N32 136 (55 + 4 * j)).toInt = _
        rw [z55, ts']; omega
      · rw [← em, show (2 * b + s) / 2 = b by omega]; exact no.2
      · show GVr (row 136 N32) _ _ (rd N32 136 (56 + 4 * j))
        rw [z56, ← g1, ← em, show (2 * b + s) / 2 = b by omega, no.1]
        intro N' hN'
        exact hGV N' (fun i hi => (hN' i hi).trans (ny i (by omega) (by omega) (by omega)))
  · intro c j hc
    show rd M12 c j = rd M9 c j
    rw [cls, rd_wk (by omega), rd_wk (by omega), rd_wk (by omega), rd_wk (by omega), rd_wk (by omega)]
  · have kx : KS (fun c _ => 5 ≤ c ∧ c < 13) M9 M12 := by
      rw [cls]
      exact ((((KS.rf.wr (by omega)).wr (by omega)).wr (by omega)).wr (by omega)).wr (by omega)
    have lx : KL M9 M12 := lX1_addStep (k0 := 5) (KL.rf : KL M9 M9) _ p7
    exact S9.2.2.2.2.ks kx (fun c j _ _ _ z => by omega) (fun j => lx.rl j)
  · show rd N32 135 5 = rd N 135 5
    rw [nx 135 5 (by decide), k10 135 5 (by unfold SHi; omega), k7 135 5 (by unfold SLy; omega), c3 135 5 (by unfold SRl; omega)]
end FO
