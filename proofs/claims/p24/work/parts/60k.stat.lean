/-! spring-back's statement; a statement whatever it is -/
section BS
variable {M N M0 N0 : Mem} {f : Nat → Int32} {w n i : Nat}
theorem LB_eq {M' : Mem} (h : PR 13 M' f) {m : Nat} (hm : (f 19).toInt = (m : Int)) : LB 13 M' = if m = 0 then -1 else (f (20 + 2 * (m - 1))).toInt := by
  unfold LB
  rw [h.nb, hm]
  by_cases q : m = 0
  · rw [if_pos (by omega), if_pos q]
  · rw [if_neg (by omega), if_neg q, show ((m : Int) - 1).toNat = m - 1 by omega]
    rw [(h.ba (m - 1) (by omega)).1]
theorem st_back (hT : TT M N) (ht : rd N 135 13 = 2) (h : BX (row 137 N) M N) : R2 (mX4_readStatement_b32v1 2 13 4 M) (cal (mX7_backStatement 135 N) (fun q r => chk (isB r) (KK q r))) SRel := by
  unfold mX4_readStatement_b32v1 mX7_backStatement
  simp only [cal_ite, cal_cap, cal_cal, cal_chk, cal_some, cal_bnd]
  have nb : rd M 13 10 = rd N 137 19 := h.pr.nb
  have bb : 0 ≤ (rd N 137 19).toInt ∧ (rd N 137 19).toInt ≤ 8 := h.pr.bb
  refine R2.cl (eow_other (by decide)) (fun e he => R2.kr (fun _ => R2.br (fun b eb => R2.ir (fun c8 => ?_) (fun c8 => ?_))))
  · have eb : b = rd N 137 19 := eb
    have c8 := congrArg Int32.toInt c8
    rw [eb, show ((8 : Int32)).toInt = 8 from rfl] at c8
    rw [nb] at he
    have he : e = 5 := by
      rcases he with ⟨_, _, q⟩ | ⟨q, _⟩
      · exact q
      · have := q rfl; omega
    exact word_err (by rw [he]; decide) hT ht he
  · have eb : b = rd N 137 19 := eb
    have c8 := i_ne c8
    rw [eb, show ((8 : Int32)).toInt = 8 from rfl] at c8
    rw [nb] at he
    have he : e = 0 := by
      rcases he with ⟨_, q, _⟩ | ⟨_, q⟩
      · omega
      · exact q
    subst he
    obtain ⟨m, hm⟩ : ∃ m : Nat, (rd N 137 19).toInt = (m : Int) := ⟨(rd N 137 19).toInt.toNat, by omega⟩
    have tb : b.toInt = (m : Int) := by rw [eb]; exact hm
    have n20 : ((20 : Int32)).toInt = 20 := rfl
    have n1 : ((1 : Int32)).toInt = 1 := rfl
    have n2 : ((2 : Int32)).toInt = 2 := rfl
    have a1 := i_mulc (a := (2 : Int32)) (b := b) (c := 2) rfl (by omega) (by omega)
    have a2 := i_add (a := (20 : Int32)) (b := (2 : Int32) * b) (by omega) (by omega)
    have a3 := i_add (a := (20 : Int32) + (2 : Int32) * b) (b := 1) (by omega) (by omega)
    have a4 := i_sub (a := (20 : Int32) + (2 : Int32) * b) (b := 2) (by omega) (by omega)
    unfold mX4_readStatement_b51v1
    generalize (5000 : Nat) = n0
    have hF0 : (wF0.getD 4 0).toInt = 0 ∧ (wF1.getD 4 0).toInt = 999 ∧ (wF2.getD 4 0).toInt = 300 := by decide
    have go : ∀ lo : Int32, lo.toInt = (if m = 0 then 0 else (rd N 137 (20 + 2 * (m - 1))).toInt + 1) → R2 (mX4_readStatement_l55v1 2 13 4 n0 0 (Int32.ofNat 0) M) (cal (mX7_advance 135 N) (fun M3 _ => cal (mX7_backStatement_b48 135 b lo M3) (fun q r => chk (isB r) (KK q r)))) SRel := by
      intro lo hlo
      unfold mX7_backStatement_b48
      simp only [cal_ite, cal_cap, cal_cal, cal_chk, cal_some, cal_bnd]
      have bv : ∀ j : Nat, (j : Int) < (rd N 137 19).toInt → 0 ≤ (rd N 137 (20 + 2 * j)).toInt ∧ (rd N 137 (20 + 2 * j)).toInt ≤ 999 := h.pr.bv
      have lo0 : 0 ≤ lo.toInt := by
        rw [hlo]
        by_cases q : m = 0
        · rw [if_pos q]; omega
        · rw [if_neg q]
          have := bv (m - 1) (by omega); omega
      refine numX (w := 4) (i := 0) (j := 20 + 2 * m) (by decide) (by decide) h (fun M' N' hB _ hv => ?_) (by omega) (fun M1 => Pc.i (fun _ => kk_0 M1) (fun q => absurd rfl q)) (fun n1 M1 N1 v1 b1 r1 s1 t1 w1 => ?_)
      · rw [alw0, hv, hF0.1, hF0.2.1, LB_eq hB.pr hm, hlo, show ((999 : Int32)).toInt = 999 from rfl]
        by_cases q : m = 0
        · rw [if_pos q, if_pos q]
          exact ⟨fun h => h.1, fun h => ⟨h, fun _ => by omega⟩⟩
        · rw [if_neg q, if_neg q]
          have := bv (m - 1) (by omega)
          have e9 : row 137 N (20 + 2 * (m - 1)) = rd N 137 (20 + 2 * (m - 1)) := rfl
          rw [e9]
          exact ⟨fun h => ⟨by have := h.2 rfl; omega, h.1.2⟩, fun h => ⟨⟨by omega, h.2⟩, fun _ => by omega⟩⟩
      refine adv_1 ?_
      refine numX (w := 4) (i := 1) (j := 21 + 2 * m) (by decide) (by decide) b1 (fun M' N' hB _ hv => ?_) (by omega) (fun M1 => Pc.i (fun _ => kk_0 M1) (fun q => absurd rfl q)) (fun n2 M2 N2 v2 b2 r2 s2 t2 w2 => ?_)
      · rw [alw1, hv, hF0.2.2]; exact ⟨fun h => h.1, fun h => ⟨h, fun q => absurd q (by decide)⟩⟩
      refine adv_1 ?_
      refine step_z (by decide) (by decide) (by decide) (fun n3 M3 e3 => ?_)
      have b3 : BX (row 137 N) M3 N2 := by rw [e3]; exact b2.put3
      refine endX b3 (fun M4 N4 hT4 b4 s4 w4 => R2.kr (fun _ => R2.kr (fun _ => R2.br (fun N5 e5 => ?_))))
      have e5 : N5 = wr N4 137 19 (rd N4 137 19 + 1) := e5
      have z0 : rd M3 3 0 = v1 := by rw [e3, rd_wj (by decide), t2 0 (by decide)]; exact s1
      have z1 : rd M3 3 1 = v2 := by rw [e3, rd_wj (by decide)]; exact s2
      have m10 : rd M4 13 10 = rd N 137 19 := b4.pr.nb
      have q19 : rd N4 137 19 = rd N 137 19 := by
        have := congrFun (w4.trans w2) 19
        rw [w1, upf_n (by omega), upf_n (by omega)] at this; exact this
      rw [q19] at e5
      have a5 := i_add (a := rd N 137 19) (b := 1) (by omega) (by omega)
      refine fin2 (N0 := N5) hT4 b4 (by rw [e5]; exact k137 KS.rf) (Pc.mono (acc_back (m := m) (by rw [m10]; exact hm) (by omega)) (fun q hq => ?_))
      rw [hq, s4, s4, z0, z1, m10]
      have g5 : row 137 N5 = upf (upf (upf (row 137 N) (20 + 2 * m) v1) (21 + 2 * m) v2) 19 (rd N 137 19 + 1) := by rw [e5, row_wr, w4, w2, w1]
      rw [g5]
      refine ⟨b4.pr.back hm (by omega) ⟨by omega, by have := r1.2; exact this⟩ (fun i hi => by have h1 := r1.1; rw [hlo, if_neg (by omega), show m - 1 = i by omega] at h1; exact h1) (by omega), ((KS.rf.wr ?_).wr ?_).wr ?_⟩ <;> decide
    refine R2.mono (Q := SRel) ?_ (fun _ _ h => h)
    by_cases q : m = 0
    · have b0 : b = 0 := i_eq.mpr (by rw [tb, q]; rfl)
      refine adv_cg (k' := fun M3 _ => cal (mX7_backStatement_b48 135 b 0 M3) (fun q r => chk (isB r) (KK q r))) (fun N' _ => if_pos b0) (go 0 (by rw [if_pos q]; rfl))
    · have b0 : ¬ b = 0 := fun e => by rw [e] at tb; have : ((0 : Int32)).toInt = 0 := rfl; omega
      have bv := h.pr.bv (m - 1) (by show ((m - 1 : Nat) : Int) < (rd N 137 19).toInt; omega)
      have bv : 0 ≤ (rd N 137 (20 + 2 * (m - 1))).toInt ∧ (rd N 137 (20 + 2 * (m - 1))).toInt ≤ 999 := bv
      have a6 := i_add (a := rd N 137 (20 + 2 * (m - 1))) (b := 1) (by omega) (by omega)
      refine adv_cg (k' := fun M3 _ => cal (mX7_backStatement_b48 135 b (rd N 137 (20 + 2 * (m - 1)) + 1) M3) (fun q r => chk (isB r) (KK q r))) (fun N' kN => ?_) (go _ (by rw [if_neg q, a6, n1]))
      refine (if_neg b0).trans ?_
      have e : rd N' (135 + 2) ((20 : Int32) + (2 : Int32) * b - (2 : Int32)).toNatClampNeg = rd N 137 (20 + 2 * (m - 1)) := by
        rw [i_clamp, show ((20 : Int32) + (2 : Int32) * b - (2 : Int32)).toInt.toNat = 20 + 2 * (m - 1) by omega]
        exact kN 137 _ (fun z => absurd z.1 (by decide))
      rw [e]
      unfold chk
      rw [if_pos (ok_in (by omega) (by omega))]
/-- no word, or none that is known -/
theorem st_none (hT : TT M N) : R2 (mX4_readStatement_b32 2 13 M) (cal (mX7_fail 135 2 N) (fun q r => chk (isB r) (chk (isB r) (KK q r)))) SRel := by
  unfold mX4_readStatement_b32 mX4_readStatement_b51
  refine R2.cl pc_ein (fun e he => ?_)
  rw [hT.tk] at he
  have h0 : ¬ e = 0 ∧ e = (if rd N 135 13 = 1 then 1 else 2) := by
    rcases he with ⟨q, rfl⟩ | ⟨q, _, rfl⟩ | ⟨q, _, rfl⟩
    · rw [if_pos q]; exact ⟨by decide, rfl⟩
    · rw [if_neg q]; exact ⟨by decide, rfl⟩
    · rw [if_neg q]; exact ⟨by decide, rfl⟩
  exact err2 h0.1 (tail_err0 h0.1 5000 0 M) hT.st h0.2 (fun M1 => Pc.k (fun _ => kk_0 M1))
theorem cap_cap {ρ σ β : Type} {x : Option ρ} {k : ρ → Option σ} {k' : σ → Option β} : cap (cap x k) k' = cap x (fun r => cap (k r) k') := by cases x <;> rfl
theorem cap_ite {σ β : Type} {c : Prop} [Decidable c] {a b : Option σ} {k' : σ → Option β} : cap (ite2 c a b) k' = ite2 c (cap a k') (cap b k') := by unfold ite2; split <;> rfl
theorem cap_some {σ β : Type} {r : σ} {k' : σ → Option β} : cap (some r) k' = k' r := rfl
theorem chk2 {r : Int32} {q : Mem} : chk (isB r) (chk (isB r) (KK q r)) = chk (isB r) (KK q r) := by
  unfold chk; split <;> rfl
/-- a statement -/
theorem st_all (hT : TT M N) (h : BX (row 137 N) M N) : R2 (mX4_readStatement 2 13 M) (cal (mX7_statement 135 N) KK) SRel := by
  have iw : ∀ k, k < 11 → Pc (mX7_isWord 135 k N) (fun r => (r = 1 ∧ rd N 135 13 = 2 ∧ Sp N k) ∨ (r = 0 ∧ ¬ (rd N 135 13 = 2 ∧ Sp N k))) := fun k hk => pc_isWord hk hT
  -- what the class finds
  have cls : ∀ (y : Option (Mem × Int32)), (∀ w, w < 11 → rd N 135 13 = 2 → Sp N w → R2 (mX4_readStatement_b32v1 2 13 w M) y SRel) → ((∀ w, w < 11 → ¬ (rd N 135 13 = 2 ∧ Sp N w)) → R2 (mX4_readStatement_b32 2 13 M) y SRel) → R2 (mX4_readStatement 2 13 M) y SRel := by
    intro y h1 h2
    unfold mX4_readStatement
    rw [hT.tk, hT.st, hT.nx]
    refine R2.il (fun c => R2.kl (fun _ => R2.cl (pc_find hT) (fun r p => ?_))) (fun c => h2 (fun w _ q => c q.1))
    rcases p with ⟨rfl, p⟩ | ⟨w, rfl, hw, p⟩
    · exact h2 (fun w hw q => p w hw q.2)
    · exact R2.kl (fun _ => h1 w hw c p)
  unfold mX7_statement mX7_statement_b46 mX7_toolHere
  simp only [cal_ite, cal_cap, cal_cal, cal_chk, cal_some, cal_bnd, chk2, cap_cap, cap_ite, cap_some]
  -- the first words that are not there, then one that is
  have one : ∀ k, k < 11 → rd N 135 13 = 2 ∧ Sp N k → ∀ (y : Option (Mem × Int32)), R2 (mX4_readStatement_b32v1 2 13 k M) y SRel → R2 (mX4_readStatement 2 13 M) y SRel := fun k hk hs y hy =>
    cls y (fun w hw _ p => by rw [Sp.one p hs.2 hw hk]; exact hy) (fun q => absurd hs (q k hk))
  have q0 : ∀ r : Int32, r = 1 → ¬ r = 0 := fun r e q => by rw [e] at q; exact absurd q (by decide)
  refine R2.cr (iw 0 (by decide)) (fun r0 p0 => R2.ir (fun c0 => ?_) (fun c0 => ?_))
  rotate_left
  · rcases p0 with ⟨_, p0⟩ | ⟨q, _⟩
    · exact one 0 (by decide) p0 _ (st_sheet hT h)
    · exact absurd q c0
  refine R2.cr (iw 1 (by decide)) (fun r1 p1 => R2.ir (fun c1 => ?_) (fun c1 => ?_))
  rotate_left
  · rcases p1 with ⟨_, p1⟩ | ⟨q, _⟩
    · exact one 1 (by decide) p1 _ (st_leg hT p1.1 h)
    · exact absurd q c1
  refine R2.cr (iw 2 (by decide)) (fun r2 p2 => R2.ir (fun c2 => ?_) (fun c2 => ?_))
  rotate_left
  · rcases p2 with ⟨_, p2⟩ | ⟨q, _⟩
    · refine R2.cr (iw 2 (by decide)) (fun r p => ?_)
      rcases p with ⟨rfl, _⟩ | ⟨_, q⟩
      · exact one 2 (by decide) p2 _ (st_bend (Or.inl ⟨rfl, rfl⟩) hT p2.1 h)
      · exact absurd p2 q
    · exact absurd q c2
  refine R2.cr (iw 3 (by decide)) (fun r3 p3 => R2.ir (fun c3 => ?_) (fun c3 => ?_))
  rotate_left
  · rcases p3 with ⟨_, p3⟩ | ⟨q, _⟩
    · refine R2.cr (iw 2 (by decide)) (fun r p => ?_)
      rcases p with ⟨_, p⟩ | ⟨rfl, _⟩
      · exact absurd (Sp.one p.2 p3.2 (by decide) (by decide)) (by decide)
      · exact one 3 (by decide) p3 _ (st_bend (Or.inr ⟨rfl, rfl⟩) hT p3.1 h)
    · exact absurd q c3
  refine R2.cr (iw 4 (by decide)) (fun r4 p4 => R2.ir (fun c4 => ?_) (fun c4 => ?_))
  rotate_left
  · rcases p4 with ⟨_, p4⟩ | ⟨q, _⟩
    · exact one 4 (by decide) p4 _ (st_back hT p4.1 h)
    · exact absurd q c4
  refine R2.cr (iw 10 (by decide)) (fun r10 p10 => R2.ir (fun c10 => ?_) (fun c10 => ?_))
  rotate_left
  · rcases p10 with ⟨_, p10⟩ | ⟨q, _⟩
    · exact one 10 (by decide) p10 _ (st_cost hT h)
    · exact absurd q c10
  refine R2.cr (iw 5 (by decide)) (fun r5 p5 => R2.ir (fun c5 => ?_) (fun c5 => ?_))
  rotate_left
  · rcases p5 with ⟨_, p5⟩ | ⟨q, _⟩
    · refine R2.ir (fun q => absurd q (by decide)) (fun _ => one 5 (by decide) p5 _ (st_tool0 (t := 0) (by decide) hT h))
    · exact absurd q c5
  refine R2.cr (iw 6 (by decide)) (fun r6 p6 => R2.ir (fun c6 => ?_) (fun c6 => ?_))
  rotate_left
  · rcases p6 with ⟨_, p6⟩ | ⟨q, _⟩
    · refine R2.ir (fun q => absurd q (by decide)) (fun _ => one 6 (by decide) p6 _ (st_tool0 (t := 1) (by decide) hT h))
    · exact absurd q c6
  refine R2.cr (iw 7 (by decide)) (fun r7 p7 => R2.ir (fun c7 => ?_) (fun c7 => ?_))
  rotate_left
  · rcases p7 with ⟨_, p7⟩ | ⟨q, _⟩
    · refine R2.ir (fun q => absurd q (by decide)) (fun _ => one 7 (by decide) p7 _ (st_tool0 (t := 2) (by decide) hT h))
    · exact absurd q c7
  refine R2.cr (iw 8 (by decide)) (fun r8 p8 => R2.ir (fun c8 => ?_) (fun c8 => ?_))
  rotate_left
  · rcases p8 with ⟨_, p8⟩ | ⟨q, _⟩
    · refine R2.ir (fun q => absurd q (by decide)) (fun _ => one 8 (by decide) p8 _ (st_tool0 (t := 3) (by decide) hT h))
    · exact absurd q c8
  refine R2.cr (iw 9 (by decide)) (fun r9 p9 => R2.ir (fun c9 => ?_) (fun c9 => ?_))
  rotate_left
  · rcases p9 with ⟨_, p9⟩ | ⟨q, _⟩
    · refine R2.ir (fun q => absurd q (by decide)) (fun _ => one 9 (by decide) p9 _ (st_tool0 (t := 4) (by decide) hT h))
    · exact absurd q c9
  refine R2.ir (fun _ => cls _ (fun w hw t p => ?_) (fun _ => ?_)) (fun q => absurd trivial q)
  · exfalso
    have key : ∀ r k, ((r = 1 ∧ rd N 135 13 = 2 ∧ Sp N k) ∨ (r = 0 ∧ ¬ (rd N 135 13 = 2 ∧ Sp N k))) → r = (0 : Int32) → ¬ Sp N k := fun r k h0 h1 q => by
      rcases h0 with ⟨e, _⟩ | ⟨_, e⟩
      · rw [h1] at e; exact absurd e (by decide)
      · exact e ⟨t, q⟩
    have h11 : w = 0 ∨ w = 1 ∨ w = 2 ∨ w = 3 ∨ w = 4 ∨ w = 5 ∨ w = 6 ∨ w = 7 ∨ w = 8 ∨ w = 9 ∨ w = 10 := by omega
    rcases h11 with rfl | rfl | rfl | rfl | rfl | rfl | rfl | rfl | rfl | rfl | rfl
    · exact key _ _ p0 c0 p
    · exact key _ _ p1 c1 p
    · exact key _ _ p2 c2 p
    · exact key _ _ p3 c3 p
    · exact key _ _ p4 c4 p
    · exact key _ _ p5 c5 p
    · exact key _ _ p6 c6 p
    · exact key _ _ p7 c7 p
    · exact key _ _ p8 c8 p
    · exact key _ _ p9 c9 p
    · exact key _ _ p10 c10 p
  · have := st_none hT
    simp only [chk2] at this
    exact this
end BS
