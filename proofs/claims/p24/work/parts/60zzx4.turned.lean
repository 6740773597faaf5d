/-! costIfTurned: alike -/
section CTN
variable {g : Gm} {k n m a b s c l e : Nat} {M M' N N' N0 : Mem} {x x1 : Int32}
theorem last_somek {f : Nat → Int32} (hP : PR k M f) : ∃ lc lg, mX1_lastCode k M = some lc ∧ mX1_lastGauge k M = some lg := by
  have hs := hP.sb
  have n1 : ((1 : Int32)).toInt = 1 := rfl
  have hn : rd M k 14 = f 53 := hP.ns
  unfold mX1_lastCode mX1_lastGauge ite2
  rw [hn]
  by_cases c : f 53 ≤ 0
  · rw [if_pos c, if_pos c]; exact ⟨_, _, rfl, rfl⟩
  · rw [if_neg c, if_neg c]
    have c : 0 < (f 53).toInt := i_nle c
    have e := i_sub (a := f 53) (b := 1) (by omega) (by omega)
    have o : okb (f 53 - (1 : Int32)) 8 = true := ok_in (by omega) (by omega)
    rw [o]
    exact ⟨_, _, rfl, rfl⟩
theorem f_xor : ∀ u, u < 256 → ∀ t, t < 8 → (Int32.ofNat u ^^^ ((1 : Int32) <<< (Int32.ofNat t &&& 31))) = Int32.ofNat (u ^^^ 2 ^ t) := by decide +kernel
theorem costIfTurned_RR (h : SS M N) (hI : MI N) : R2 (mX6_costIfTurned 0 x1 M) (mX7_costIfTurned 135 x1 N) (fun p q => XR nmb2 p q ∧ SS p.1 q.1) := by
  obtain ⟨m, m2, em, hR⟩ := row_at hI h.1
  have n8 := nb8 (pr_9 h.1)
  have m256 := n_256 n8 m2
  have hn : (rd N 136 0).toInt = (nb 5 M : Int) := h.1.pb.bn
  have n0 : ((0 : Int32)).toInt = 0 := rfl
  have n1 : ((1 : Int32)).toInt = 1 := rfl
  have ns : rd M 5 14 = rd N 136 53 := h.1.ns
  have sb : 0 ≤ (rd N 136 53).toInt ∧ (rd N 136 53).toInt ≤ 8 := h.1.sb
  unfold mX6_costIfTurned mX7_costIfTurned
  refine R2.cr (pc_isBend hn n8) (fun r2 p2 => R2.kr (fun _ => ?_))
  have bad : ∀ {y1 y2 : Int32} {w : Nat}, (y1 = 0 ∧ w = 1 ∨ ¬ y1 = 0 ∧ y2 = 0 ∧ w = 2) → R2 (some (M, (Sum.inr w : Int32 ⊕ Nat))) (mX7_costIfTurned_b21 135 x1 y1 y2 N) (fun p q => XR nmb2 p q ∧ SS p.1 q.1) := by
    intro y1 y2 w hy
    unfold mX7_costIfTurned_b21
    refine R2.mr pc_good2 (fun N9 r8 p8 => ?_)
    rcases p8 with ⟨z, e8⟩ | ⟨z, z2, e8⟩ | ⟨z, z2, e8⟩
    · cases e8
      refine R2.ir (fun _ => R2.ok ⟨XR.inr ?_, h.th⟩) (fun z => absurd rfl z)
      rcases hy with ⟨_, e⟩ | ⟨q, _⟩
      · rw [e]; exact rd_we
      · exact absurd z q
    · cases e8
      refine R2.ir (fun _ => R2.ok ⟨XR.inr ?_, h.th⟩) (fun z => absurd rfl z)
      rcases hy with ⟨q, e⟩ | ⟨_, _, e⟩
      · exact absurd q z
      · rw [e]; exact rd_we
    · rcases hy with ⟨q, e⟩ | ⟨_, q, e⟩
      · exact absurd q z
      · exact absurd q z2
  refine R2.xl (pc_reqBend h.1 hn) (fun M1 v q => ?_) (fun M1 w q => ?_)
  rotate_left
  · rcases q with ⟨e, _⟩ | ⟨e, q1⟩
    · exact absurd (congrArg Prod.snd e) (by intro z; cases z)
    · cases e
      have e2 : r2 = 0 := by
        rcases p2 with ⟨_, z⟩ | ⟨z, _⟩
        · exact absurd z q1
        · exact z
      exact R2.ir (fun _ => bad (Or.inl ⟨e2, rfl⟩)) (fun _ => bad (Or.inl ⟨e2, rfl⟩))
  rcases q with ⟨e, q1⟩ | ⟨e, _⟩
  rotate_left
  · exact absurd (congrArg Prod.snd e) (by intro z; cases z)
  have eM : M1 = M := congrArg Prod.fst e
  subst eM
  have e2 : r2 = 1 := by
    rcases p2 with ⟨z, _⟩ | ⟨_, z⟩
    · exact z
    · exact absurd q1 z
  have e2n : ¬ r2 = 0 := by rw [e2]; decide
  refine R2.xl pc_reqFlat (fun M2 v q => ?_) (fun M2 w q => ?_)
  rotate_left
  · rcases q with ⟨e, _⟩ | ⟨e, q2⟩
    · exact absurd (congrArg Prod.snd e) (by intro z; cases z)
    · cases e
      refine R2.ir (fun z => ?_) (fun _ => bad (Or.inr ⟨e2n, rfl, rfl⟩))
      have z : rd N 136 53 = 0 := z
      rw [ns, z] at q2
      exact absurd q2 (by decide)
  rcases q with ⟨e, q2⟩ | ⟨e, _⟩
  rotate_left
  · exact absurd (congrArg Prod.snd e) (by intro z; cases z)
  have eM : M2 = M1 := congrArg Prod.fst e
  subst eM
  have s0 : rd N 136 53 = 0 := i_eq.mpr (by rw [ns] at q2; rw [n0]; omega)
  refine R2.ir (fun _ => ?_) (fun z => absurd (show rd N 136 53 = 0 from s0) z)
  obtain ⟨b, hb, eb⟩ : ∃ b : Nat, b < nb 5 M2 ∧ x1 = Int32.ofNat b := ⟨x1.toInt.toNat, by omega, o_of q1.1⟩
  subst eb
  unfold mX7_costIfTurned_b21
  refine R2.mr pc_good2 (fun N8 r7 p8 => ?_)
  rcases p8 with ⟨z, _⟩ | ⟨_, z, _⟩ | ⟨_, _, e8⟩
  · exact absurd z e2n
  · exact absurd z (by decide)
  have eN : N8 = wr N 135 5 0 := congrArg Prod.fst e8
  have er : r7 = 1 := congrArg Prod.snd e8
  subst eN
  subst er
  have tb : (Int32.ofNat b).toInt = (b : Int) := t_of (by omega)
  have n11 : ((11 : Int32)).toInt = 11 := rfl
  have ei : ((11 : Int32) + Int32.ofNat b).toNatClampNeg = 11 + b := by rw [i_clamp, i_add (by omega) (by omega)]; omega
  rw [ei]
  have h8 := h.th (v := 0)
  have hI8 : MI (wr N 135 5 0) := (hI.th (v := 0)).1
  refine R2.ir (fun z => absurd z (by decide)) (fun _ => R2.kr (fun _ => R2.kr (fun _ => R2.br (fun N13 e13 => ?_))))
  -- the part copied and turned
  refine R2.ml ((pc_copyFrom (k := 13) (k' := 5) (M := M2) (Or.inr (by omega))).and (lX1_copyFrom (k0 := 13) (k1 := 5) (KL.rf : KL M2 M2))) (fun M11 _ p => ?_)
  obtain ⟨⟨c0, c1, c2, c3, c4⟩, l11⟩ := p
  have c4 : KS (fun c _ => 13 ≤ c ∧ c < 13 + 8) M2 M11 := c4
  have l11 : KL M2 M11 := l11
  have P11 : PR 13 M11 (row 136 (wr N 135 5 0)) := PR.copy h8.1 c0 c1 c2 c3
  refine R2.bl (fun M12 e12 => ?_)
  have u2 : rd M11 13 2 = rd M2 5 2 := c0 2 (by omega) (by omega) (by omega) (by omega) (by omega)
  have ub := P11.ub
  have uz := P11.uz
  have up := P11.up
  have hn8 : (row 136 (wr N 135 5 0) 0).toInt = (nb 5 M2 : Int) := h8.1.pb.bn
  obtain ⟨u, eu⟩ : ∃ u, (rd M11 13 2).toInt.toNat = u := ⟨_, rfl⟩
  rw [eu] at uz up
  have e2u : rd M11 13 2 = Int32.ofNat u := by rw [← eu]; exact o_of ub.1
  have u256 : u < 256 := by omega
  rw [e2u, f_xor u u256 b (by omega)] at e12
  have hnn : (row 136 (wr N 135 5 0) 0).toInt.toNat = nb 5 M2 := by omega
  rw [hnn] at uz
  have x2n : u ^^^ 2 ^ b < 2 ^ nb 5 M2 := Nat.xor_lt_two_pow uz (Nat.pow_lt_pow_right (by decide) hb)
  have x256 := n_256 n8 x2n
  have tx : (Int32.ofNat (u ^^^ 2 ^ b)).toInt = ((u ^^^ 2 ^ b : Nat) : Int) := t_of (by omega)
  have upb : ∀ b', b' < nb 5 M2 → rd (wr N 135 5 0) 136 (11 + b') = if u.testBit b' then 1 else 0 := fun b' hb' => up b' (by rw [hn8]; omega)
  have P12 : PR 13 M12 (row 136 N13) := by
    rw [e12, e13]
    refine PR.setUps (f := row 136 (wr N 135 5 0)) P11 (fun i hi => rd_wj (by omega)) (by rw [tx]; omega) (by rw [tx, hnn]; omega) (fun b' hb' => ?_)
    rw [hn8] at hb'
    have hb'' : b' < nb 5 M2 := by omega
    have e1 : (Int32.ofNat (u ^^^ 2 ^ b)).toInt.toNat = u ^^^ 2 ^ b := by rw [tx]; omega
    rw [e1, Nat.testBit_xor, Nat.testBit_two_pow]
    by_cases q : b' = b
    · subst q
      show rd (wr (wr N 135 5 0) 136 (11 + b') _) 136 (11 + b') = _
      rw [rd_we]
      show (1 : Int32) - rd (wr N 135 5 0) 136 (11 + b') = _
      rw [upb b' hb'']
      cases u.testBit b' <;> simp
    · show rd (wr (wr N 135 5 0) 136 (11 + b) _) 136 (11 + b') = _
      rw [rd_wj (by omega), upb b' hb'', decide_eq_false (fun z => q z.symm)]
      cases u.testBit b' <;> simp
  have k12 : KS (fun c _ => 13 ≤ c ∧ c < 13 + 8) M2 M12 := by rw [e12]; exact c4.wr ⟨by omega, by omega⟩
  have l12 : KL M2 M12 := by rw [e12]; exact l11.wr
  have V12 : PV M12 := h.2.2.2.2.ks k12 (fun c j h1 h2 _ z => by omega) (fun j => l12.rl j)
  have h912 : (rd M12 13 0).toInt ≤ 9 := by rw [P12.lc]; exact P12.lb.2
  have enb : nb 13 M12 = nb 5 M2 := by
    have a1 := P12.pb.bn
    have a2 : (row 136 N13 0).toInt = (nb 5 M2 : Int) := by rw [e13]; show (rd (wr (wr N 135 5 0) 136 (11 + b) _) 136 0).toInt = _; rw [rd_wj (by omega)]; exact hn8
    omega
  have m12 : rd M12 13 13 = Int32.ofNat m := by
    rw [e12, rd_wj (by omega)]
    exact (c0 13 (by omega) (by omega) (by omega) (by omega) (by omega)).trans em
  obtain ⟨lc, lg, elc, elg⟩ := last_somek P12
  have z53 : rd N13 136 53 = 0 := by rw [e13, rd_wj (by omega), rd_wk (by decide)]; exact s0
  have elc1 : lc = -1 := by
    have q := pc_lastCode (k := 13) (M := M12) (by rw [P12.ns]; show (rd N13 136 53).toInt ≤ 8; rw [z53]; decide) lc elc
    have a : rd M12 13 14 = rd N13 136 53 := P12.ns
    rw [a, z53] at q
    rcases q with ⟨_, q⟩ | ⟨q, _⟩
    · exact q
    · exact absurd q (by decide)
  subst elc1
  refine R2.ml (pc_prepare (k := 13) (by omega) h912 m12 (by rw [enb]; exact m2) V12 elc elg) (fun M16 _ p => ?_)
  obtain ⟨k16, K16, V16⟩ := p
  have k16 : KS SPp M12 M16 := k16
  have K16 : PK 13 m M16 := K16
  have V16 : PV M16 := V16
  have b16 : BL 13 M12 13 M16 := BL.ks k16 (fun c j h1 h2 z => by unfold SPp at z; omega)
  have g16 : GL 13 M12 13 M16 := GL.ks k16 (fun c j h1 h2 z => by unfold SPp at z; omega)
  have P16 : PR 13 M16 (row 136 N13) := P12.ks k16 (fun c j h1 h2 z => by unfold SPp at z; omega)
  have h916 : (rd M16 13 0).toInt ≤ 9 := by rw [P16.lc]; exact P16.lb.2
  have en16 : nb 13 M16 = nb 5 M2 := b16.bn.trans enb
  -- the reference's costs, turned
  have hO13 : OKm gS N13 := by
    rw [e13]
    refine put136 hI8.1 ?_
    rw [bx_up b (by omega)]
    have q := upb b hb
    rw [q]
    cases u.testBit b <;> decide
  have hN13 : NM (nb 13 M16) m N13 := by
    rw [en16, e13]
    have a := (row_th (v := 0) hR).nm
    exact ⟨(rd_wj (by omega)).trans a.1, a.2.1, (rd_wj (by omega)).trans a.2.2.1, a.2.2.2⟩
  unfold mX7_leastNow
  simp only [cal_cal]
  refine R2.mr ((pc_layCosts hO13 hN13).and (Fr.pc (vX7_layCosts (KS.rf : KS SLy N13 N13)))) (fun N5 _ p => ?_)
  obtain ⟨⟨hB, hC, hP, hA⟩, hk5⟩ := p
  have hk5 : KS SLy N13 N5 := hk5
  have hB : CBx (nb 13 M16) m N13 N5 := hB
  have hX : CTX (w2 gS) 13 m M16 N13 N5 := ⟨K16.1, h916, by rw [hB.2.1]; exact P16, hP.1, hB.2.2.1, hB.2.2.2, hC, K16.2.2.1, hB.2.1⟩
  have hl : LST 13 M16 N5 m 16 (-1) lg := Or.inl ⟨rfl, rfl⟩
  obtain ⟨_, _, _, lc', lg', w1, w2, w3, w4, w5⟩ := K16
  rw [g16.2.1, elc] at w1
  rw [g16.2.2.1, elg] at w2
  cases w1
  cases w2
  have hL := hX.least hA (by rw [en16]; exact m2) hl w3
  have back : ∀ v : Int32, v = rd M16 110 0 → R2 (some (M16, (Sum.inl (rd M16 110 0) : Int32 ⊕ Nat))) (chk (okb ((11 : Int32) + Int32.ofNat b) 86) (chk (okb ((11 : Int32) + Int32.ofNat b) 86) (bnd (wr N5 (135 + 1) (11 + b) ((1 : Int32) - (rd N5 (135 + 1) (11 + b)))) (fun M20 => some (M20, v))))) (fun p q => XR nmb2 p q ∧ SS p.1 q.1) := by
    intro v hv
    refine R2.kr (fun _ => R2.kr (fun _ => R2.br (fun N20 e20 => R2.ok ⟨XR.inl ?_ hv.symm, ?_⟩)))
    · rw [e20, rd_wk (by decide), hk5 135 5 (by unfold SLy; omega), e13, rd_wk (by decide)]; exact rd_we
    · have S16 : SS M16 (wr N 135 5 0) := h8.cl (fun c j hc => (k16 c j (by unfold SPp; omega)).trans (k12 c j (by omega))) V16
      refine S16.rf (fun j => ?_) (fun j => ?_) ?_
      · rw [e20]
        by_cases q : j = 11 + b
        · subst q
          show rd (wr N5 136 (11 + b) ((1 : Int32) - rd N5 136 (11 + b))) 136 (11 + b) = _
          rw [rd_we, hk5 136 _ (by unfold SLy; omega), e13]
          show (1 : Int32) - rd (wr (wr N 135 5 0) 136 (11 + b) ((1 : Int32) - rd (wr N 135 5 0) 136 (11 + b))) 136 (11 + b) = _
          rw [rd_we, upb b hb]
          cases u.testBit b <;> rfl
        · show rd (wr N5 136 (11 + b) _) 136 j = _
          rw [rd_wj q, hk5 136 _ (by unfold SLy; omega), e13]
          exact rd_wj q
      · rw [e20, rd_wk (by decide), hk5 139 _ (by unfold SLy; omega), e13]
        exact rd_wk (by decide)
      · rw [e20, rd_wk (by decide), hk5 135 4 (by unfold SLy; omega), e13]
        exact rd_wk (by decide)
  simp only [cal_cap, cal_ite, cal_chk, cal_some]
  have hN5 : NM (nb 13 M16) m N5 := hB.1
  refine R2.cr (pc_isOrd hN5) (fun r5 p5 => R2.ir (fun c => back _ ?_) (fun c => R2.kr (fun _ => ?_)))
  · have hm : ¬ 0 < mn N5 m := by
      rcases p5 with ⟨_, q⟩ | ⟨q, _⟩
      · exact q
      · rw [q] at c; exact absurd c (by decide)
    exact (hL.2 hm).symm
  · have hm : 0 < mn N5 m := by
      rcases p5 with ⟨q, _⟩ | ⟨_, q⟩
      · exact absurd q c
      · exact q
    have z5 : rd N5 136 53 = 0 := (hk5 136 53 (by unfold SLy; omega)).trans z53
    refine R2.cr (pc_lastNow (N := N5) (by rw [z5]; decide) (by rw [z5]; decide)) (fun r10 p10 => R2.kr (fun _ => back _ ?_))
    have e10 : r10 = Int32.ofNat 16 := by
      rcases p10 with ⟨_, e⟩ | ⟨j, hj, e, _⟩
      · exact e
      · rw [z5] at e
        have := congrArg Int32.toInt e
        rw [n0, t_of (by omega)] at this; omega
    have e52 : rd N5 (135 + 1) ((52 : Int32)).toNatClampNeg = Int32.ofNat m := hN5.2.2.1
    rw [e52, e10, ix17c (by omega) (by omega)]
    exact (hL.1 hm).2.symm
end CTN
