/-! part 60j.legs -/
section
/-! the statements of legs, bends and spring-back; all of them -/
section LS
variable {M N M0 N0 : Mem} {f : Nat → Int32} {w n i : Nat}
theorem k137 {j : Nat} {v : Int32} {N1 : Mem} (h : KS (fun k _ => k = 137) N N1) : KS (fun k _ => k = 137) N (wr N1 137 j v) := h.wr rfl
theorem ub_or {a k : Nat} (ha : a < 2 ^ k) (hk : k < 8) : (Int32.ofNat a ||| ((1 : Int32) <<< (Int32.ofNat k &&& 31))).toInt = ((a ||| 2 ^ k : Nat) : Int) ∧ (a ||| 2 ^ k) < 2 ^ (k + 1) ∧ (a ||| 2 ^ k) ≤ 255 := by
  have h2 : 2 ^ k ≤ 128 := by
    have : 2 ^ k ≤ 2 ^ 7 := Nat.pow_le_pow_right (by decide) (by omega)
    exact this
  have h3 : (a ||| 2 ^ k) < 2 ^ (k + 1) := Nat.or_lt_two_pow (by have := Nat.pow_lt_pow_right (a := 2) (by decide) (Nat.lt_succ_self k); omega) (Nat.pow_lt_pow_right (by decide) (Nat.lt_succ_self k))
  have h4 : 2 ^ (k + 1) ≤ 2 ^ 8 := Nat.pow_le_pow_right (by decide) (by omega)
  have h5 : (2 : Nat) ^ 8 = 256 := rfl
  refine ⟨?_, h3, by omega⟩
  rw [f_or a (by omega) k hk, t_of (by omega)]
theorem st_leg (hT : TT M N) (ht : rd N 135 13 = 2) (h : BX (row 137 N) M N) : R2 (mX4_readStatement_b32v1 2 13 1 M) (cal (mX7_legStatement 135 N) (fun q r => chk (isB r) (KK q r))) SRel := by
  unfold mX4_readStatement_b32v1 mX7_legStatement
  simp only [cal_ite, cal_cap, cal_cal, cal_chk, cal_some, cal_bnd]
  have lc : rd M 13 0 = rd N 137 1 := h.pr.lc
  refine R2.cl eow_leg (fun e he => R2.kr (fun _ => R2.ir (fun c => ?_) (fun c => ?_)))
  · have c : (rd N 137 1).toInt ≤ 0 := i_le.mp c
    have he : e = 0 := by
      rcases he with ⟨q, _⟩ | ⟨_, q⟩
      · rw [lc] at q; omega
      · exact q
    have l0 := h.pr.lb
    have f1 : (rd N 137 1).toInt = 0 := by have : 0 ≤ (rd N 137 1).toInt := l0.1; omega
    subst he
    unfold mX4_readStatement_b51v1
    generalize (5000 : Nat) = n0
    refine numX (w := 1) (i := 0) (j := 2) (by decide) (by decide) h (fun M' N' hB _ hv => ?_) (by decide) (fun M1 => Pc.i (fun _ => kk_0 M1) (fun q => absurd rfl q)) (fun n1 M1 N1 v1 b1 r1 s1 t1 w1 => ?_)
    · rw [alw0, hv]; exact ⟨fun h => h.1, fun h => ⟨h, fun q => absurd q (by decide)⟩⟩
    refine adv_1 ?_
    refine step_z (by decide) (by decide) (by decide) (fun n2 M2 e2 => step_z (by decide) (by decide) (by decide) (fun n3 M3 e3 => ?_))
    have b3 : BX (row 137 N) M3 N1 := by rw [e3, e2]; exact b1.put3.put3
    have z0 : rd M3 3 0 = v1 := by rw [e3, rd_wj (by decide), e2, rd_wj (by decide)]; exact s1
    refine endX b3 (fun M4 N4 hT4 b4 s4 w4 => R2.kr (fun _ => R2.br (fun N5 e5 => ?_)))
    have e5 : N5 = wr N4 137 1 1 := e5
    have l4 : (rd M4 13 0).toInt = ((0 : Nat) : Int) := by rw [b4.pr.lc]; exact f1
    refine fin2 (N0 := N5) hT4 b4 (by rw [e5]; exact k137 KS.rf) (Pc.mono (acc_leg (m := 0) (Or.inl rfl) l4 (by decide)) (fun q hq => ?_))
    have u0 := b4.pr.uz
    have n0' : (row 137 N 0).toInt = 0 := by rw [b4.pr.nn, if_pos f1]
    rw [n0'] at u0
    have u0 : (rd M4 13 2).toInt.toNat < 1 := u0
    have g5 : row 137 N5 = upf (upf (row 137 N) 2 v1) 1 1 := by rw [e5, row_wr, w4, w1]
    refine ⟨?_, fun k j hk => ?_⟩
    · refine PR.mem (M := wr (wr (wr M4 14 0 (rd M4 3 0)) 13 2 (rd M4 13 2)) 13 0 (rd M4 13 0 + 1)) ?_ (fun c j _ _ => by rw [hq, if_neg (by omega)])
      have e0 : rd M4 13 0 = 0 := i_eq.mpr l4
      refine b4.pr.legs (n := 0) f1 (by decide) ?_ (fun j hj => ?_) ?_ ?_ (fun j hj => by omega) ?_ b4.pr.ub (fun b hb => by omega) u0
      · rw [e0]; rfl
      · rw [g5]; unfold upf; rw [if_neg (by omega), if_neg (by omega)]
      · rw [g5, upf_e, e0]; rfl
      · rw [g5, upf_n (by decide), upf_n (by decide)]; exact n0'
      · rw [g5, upf_n (by decide), upf_e, s4]; exact z0.symm
    · rw [hq, rd_eq, rd_eq, rd_eq, if_neg (by omega), if_neg (by omega), if_neg (by omega)]
  · have c : 0 < (rd N 137 1).toInt := i_nle c
    have he : e = 4 := by
      rcases he with ⟨_, q⟩ | ⟨q, _⟩
      · exact q
      · rw [lc] at q; omega
    exact word_err (by rw [he]; decide) hT ht he
theorem up4_at {f : Nat → Int32} {p : Nat} {v x b c : Int32} (hp : p < 8) (g : Nat → Int32) (hg : g = upf (upf (upf (upf f (3 + p) v) (11 + p) x) 0 b) 1 c) : (∀ j, 19 ≤ j → g j = f j) ∧ (∀ j, j < p + 1 → g (2 + j) = f (2 + j)) ∧ g (2 + (p + 1)) = v ∧ (∀ b', b' < p → g (11 + b') = f (11 + b')) ∧ g (11 + p) = x ∧ g 1 = c ∧ g 0 = b := by
  subst hg
  unfold upf
  refine ⟨fun j hj => ?_, fun j hj => ?_, ?_, fun j hj => ?_, ?_, ?_, ?_⟩
  · rw [if_neg (by omega), if_neg (by omega), if_neg (by omega), if_neg (by omega)]
  · rw [if_neg (by omega), if_neg (by omega), if_neg (by omega), if_neg (by omega)]
  · rw [if_neg (by omega), if_neg (by omega), if_neg (by omega), if_pos (by omega)]
  · rw [if_neg (by omega), if_neg (by omega), if_neg (by omega), if_neg (by omega)]
  · rw [if_neg (by omega), if_neg (by omega), if_pos rfl]
  · rw [if_pos rfl]
  · rw [if_neg (by omega), if_pos rfl]
theorem tn_c (z : Nat) : ((z : Nat) : Int).toNat = z := rfl
theorem nn_c (z : Nat) : (0 : Int) ≤ (z : Int) := by omega
theorem le_c {z : Nat} (h : z ≤ 255) : ((z : Nat) : Int) ≤ 255 := by omega
theorem st_bend {x : Int32} (hx : (w = 2 ∧ x = 1) ∨ (w = 3 ∧ x = 0)) (hT : TT M N) (ht : rd N 135 13 = 2) (h : BX (row 137 N) M N) : R2 (mX4_readStatement_b32v1 2 13 w M) (cal (mX7_bendStatement 135 x N) (fun q r => chk (isB r) (KK q r))) SRel := by
  unfold mX4_readStatement_b32v1 mX7_bendStatement
  simp only [cal_ite, cal_cap, cal_cal, cal_chk, cal_some, cal_bnd]
  have lc : rd M 13 0 = rd N 137 1 := h.pr.lc
  have lb : 0 ≤ (rd N 137 1).toInt ∧ (rd N 137 1).toInt ≤ 9 := h.pr.lb
  have nn : (rd N 137 0).toInt = if (rd N 137 1).toInt = 0 then 0 else (rd N 137 1).toInt - 1 := h.pr.nn
  have cw : cntW w = 1 := by rcases hx with ⟨rfl, _⟩ | ⟨rfl, _⟩ <;> rfl
  refine R2.cl (eow_bend (by omega) (by rw [lc]; exact lb)) (fun e he => R2.kr (fun _ => R2.ir (fun c => ?_) (fun c => ?_)))
  · have c : (rd N 137 1).toInt = 0 := i_eq.mp c
    rw [lc] at he
    have he : e = 4 := by
      rcases he with ⟨_, q⟩ | ⟨q, _⟩ | ⟨q, _⟩
      · exact q
      · omega
      · omega
    exact word_err (by rw [he]; decide) hT ht he
  · have c : ¬ (rd N 137 1).toInt = 0 := i_ne c
    rw [if_neg c] at nn
    refine R2.kr (fun _ => R2.br (fun b eb => R2.ir (fun c8 => ?_) (fun c8 => ?_)))
    · have eb : b = rd N 137 0 := eb
      have c8 := congrArg Int32.toInt c8
      rw [eb, show ((8 : Int32)).toInt = 8 from rfl] at c8
      rw [lc] at he
      have he : e = 5 := by
        rcases he with ⟨q, _⟩ | ⟨_, q⟩ | ⟨q, _⟩
        · omega
        · exact q
        · omega
      exact word_err (by rw [he]; decide) hT ht he
    · have eb : b = rd N 137 0 := eb
      have c8 := i_ne c8
      rw [eb, show ((8 : Int32)).toInt = 8 from rfl] at c8
      rw [lc] at he
      have he : e = 0 := by
        rcases he with ⟨q, _⟩ | ⟨q, _⟩ | ⟨_, q⟩
        · omega
        · omega
        · exact q
      subst he
      obtain ⟨p, hp⟩ : ∃ p : Nat, (rd N 137 0).toInt = (p : Int) := ⟨(rd N 137 0).toInt.toNat, by omega⟩
      rw [← eb] at hp
      have l1 : (rd N 137 1).toInt = (p : Int) + 1 := by rw [← eb] at nn; omega
      have n1 : ((1 : Int32)).toInt = 1 := rfl
      have n2 : ((2 : Int32)).toInt = 2 := rfl
      have n11 : ((11 : Int32)).toInt = 11 := rfl
      have a1 := i_add (a := (2 : Int32)) (b := b) (by omega) (by omega)
      have a2 := i_add (a := (2 : Int32) + b) (b := 1) (by omega) (by omega)
      have a3 := i_add (a := (11 : Int32)) (b := b) (by omega) (by omega)
      have a4 := i_add (a := b) (b := 1) (by omega) (by omega)
      have a5 := i_add (a := rd N 137 1) (b := 1) (by omega) (by omega)
      unfold mX4_readStatement_b51v1
      generalize (5000 : Nat) = n0
      have hF0 : (wF0.getD w 0).toInt = 1 ∧ (wF1.getD w 0).toInt = 9999 := by rcases hx with ⟨rfl, _⟩ | ⟨rfl, _⟩ <;> decide
      refine numX (w := w) (i := 0) (j := 3 + p) (by omega) (by rw [cw]; decide) h (fun M' N' hB _ hv => ?_) (by omega) (fun M1 => Pc.i (fun _ => kk_0 M1) (fun q => absurd rfl q)) (fun n1 M1 N1 v1 b1 r1 s1 t1 w1 => ?_)
      · rw [alw0, hv, hF0.1, hF0.2]; exact ⟨fun h => h.1, fun h => ⟨h, fun q => by omega⟩⟩
      refine adv_1 ?_
      refine step_z (by omega) (by rw [cw]; decide) (by decide) (fun n2 M2 e2 => step_z (by omega) (by rw [cw]; decide) (by decide) (fun n3 M3 e3 => ?_))
      have b3 : BX (row 137 N) M3 N1 := by rw [e3, e2]; exact b1.put3.put3
      have z0 : rd M3 3 0 = v1 := by rw [e3, rd_wj (by decide), e2, rd_wj (by decide)]; exact s1
      refine endX b3 (fun M4 N4 hT4 b4 s4 w4 => ?_)
      have l4 : (rd M4 13 0).toInt = ((p + 1 : Nat) : Int) := by rw [b4.pr.lc]; show (rd N 137 1).toInt = _; omega
      have fin : R2 (cap (mX4_errorIfNot 2 (4 : Int32) (0 : Int32) M4) (fun r42 => mX4_readStatement_b131v1 2 13 w r42 M4)) (cal (mX7_bendStatement_b74 135 ((11 : Int32) + b) x N4) (fun q r => chk (isB r) (KK q r))) SRel := by
        unfold mX7_bendStatement_b74
        simp only [cal_ite, cal_cap, cal_cal, cal_chk, cal_some, cal_bnd]
        refine R2.kr (fun _ => R2.br (fun N5 e5 => R2.kr (fun _ => R2.kr (fun _ => R2.br (fun N6 e6 => R2.kr (fun _ => R2.kr (fun _ => R2.br (fun N7 e7 => ?_))))))))
        rw [i_clamp, show ((11 : Int32) + b).toInt.toNat = 11 + p by omega] at e5
        have e5 : N5 = wr N4 137 (11 + p) x := e5
        have e6 : N6 = wr N5 137 0 (rd N5 137 0 + 1) := e6
        have e7 : N7 = wr N6 137 1 (rd N6 137 1 + 1) := e7
        have q4 : ∀ j, j ≠ 3 + p → rd N4 137 j = rd N 137 j := fun j hj => by
          have := congrFun (w4.trans w1) j
          rw [upf_n hj] at this; exact this
        have v0 : rd N5 137 0 = b := by rw [e5, rd_wj (by omega), q4 0 (by omega), eb]
        have v1' : rd N6 137 1 = rd N 137 1 := by rw [e6, rd_wj (by decide), e5, rd_wj (by omega), q4 1 (by omega)]
        rw [v0] at e6
        rw [v1'] at e7
        have g7 : row 137 N7 = upf (upf (upf (upf (row 137 N) (3 + p) v1) (11 + p) x) 0 (b + 1)) 1 (rd N 137 1 + 1) := by rw [e7, row_wr, e6, row_wr, e5, row_wr, w4, w1]
        refine fin2 (N0 := N7) hT4 b4 (by rw [e7, e6, e5]; exact k137 (k137 (k137 KS.rf))) (Pc.mono (acc_leg (m := p + 1) (by omega) l4 (by omega)) (fun q hq => ?_))
        have ub := b4.pr.ub
        have n0' : (row 137 N 0).toInt.toNat = p := by show (rd N 137 0).toInt.toNat = p; rw [← eb]; omega
        -- behind 'Unit →' omega doesn't look at powers and bits
        have u0 : Unit → (rd M4 13 2).toInt.toNat < 2 ^ p := fun _ => by
          have u0 := b4.pr.uz
          rw [n0'] at u0
          exact u0
        have sh : rd M4 13 0 - 1 = Int32.ofNat p := by
          rw [i_eq, i_sub (by omega) (by omega), t_of (by omega), l4]; show ((p + 1 : Nat) : Int) - 1 = _; omega
        have eu : rd M4 13 2 = Int32.ofNat (rd M4 13 2).toInt.toNat := o_of ub.1
        have up4 : ∀ b' : Nat, b' < p → (row 137 N (11 + b') = if (rd M4 13 2).toInt.toNat.testBit b' then 1 else 0) := fun b' hb' => b4.pr.up b' (by show (b' : Int) < (rd N 137 0).toInt; rw [← eb]; omega)
        have p8 : p < 8 := by omega
        have bo := fun (_ : Unit) => ub_or (u0 ()) p8
        obtain ⟨hg, hl, hv, hb0, hb1, w1, w0⟩ := up4_at (by omega) (row 137 N7) g7
        have tz : (rd M4 13 2).toInt.toNat.testBit p = false := Nat.testBit_lt_two_pow (u0 ())
        refine ⟨?_, fun k j hk => ?_⟩
        · refine PR.mem (M := wr (wr (wr M4 14 (p + 1) (rd M4 3 0)) 13 2 (if 0 < p + 1 ∧ w = 2 then rd M4 13 2 ||| ((1 : Int32) <<< ((rd M4 13 0 - 1) &&& 31)) else rd M4 13 2)) 13 0 (rd M4 13 0 + 1)) ?_ (fun c j _ _ => hq c j)
          have hc : (rd M4 13 0 + 1).toInt = ((p + 1 : Nat) : Int) + 1 := by rw [i_add (by omega) (by omega), l4]; rfl
          have g1 : row 137 N7 1 = rd M4 13 0 + 1 := by
            rw [w1, b4.pr.lc]
          have g0 : (row 137 N7 0).toInt = ((p + 1 : Nat) : Int) := by
            rw [w0]; omega
          rw [s4, z0]
          rcases hx with ⟨rfl, rfl⟩ | ⟨rfl, rfl⟩
          · rw [if_pos ⟨by omega, rfl⟩, sh]
            rw [eu]
            refine b4.pr.legs (n := p + 1) (by show (rd N 137 1).toInt = _; omega) (by omega) hc hg g1 g0 hl hv ⟨by rw [(bo ()).1]; exact nn_c _, by rw [(bo ()).1]; exact le_c (bo ()).2.2⟩ (fun b' hb' => ?_) ?_
            · rw [(bo ()).1, tn_c, Nat.testBit_or, Nat.testBit_two_pow]
              by_cases q : b' = p
              · subst q
                rw [hb1]; simp
              · rw [hb0 b' (by omega), up4 b' (by omega)]
                have : decide (p = b') = false := decide_eq_false (by omega)
                rw [this, Bool.or_false]
            · rw [(bo ()).1, tn_c]; exact (bo ()).2.1
          · rw [if_neg (by omega)]
            refine b4.pr.legs (n := p + 1) (by show (rd N 137 1).toInt = _; omega) (by omega) hc hg g1 g0 hl hv ub (fun b' hb' => ?_) ?_
            · by_cases q : b' = p
              · subst q
                rw [hb1, tz]; rfl
              · rw [hb0 b' (by omega), up4 b' (by omega)]
            · exact Nat.lt_trans (u0 ()) (Nat.pow_lt_pow_right (by decide) (Nat.lt_succ_self p))
        · rw [hq, rd_eq, rd_eq, rd_eq, if_neg (by omega), if_neg (by omega), if_neg (by omega)]
      refine R2.ir (fun cx => ?_) (fun cx => ?_)
      · subst cx
        have := fin
        unfold mX7_bendStatement_b74 at this ⊢
        simp only [cal_ite, cal_cap, cal_cal, cal_chk, cal_some, cal_bnd] at this ⊢
        exact this
      · have ex : x = 1 := by
          rcases hx with ⟨_, q⟩ | ⟨_, q⟩
          · exact q
          · exact absurd q cx
        subst ex
        have := fin
        unfold mX7_bendStatement_b74 at this ⊢
        simp only [cal_ite, cal_cap, cal_cal, cal_chk, cal_some, cal_bnd] at this ⊢
        exact this
end LS
end
/-! part 60k.stat -/
section
/-! spring-back's statement; a statement whatever it is -/
section BS
variable {M N M0 N0 : Mem} {f : Nat → Int32} {w n i : Nat}
theorem LB_eq {M' : Mem} (h : PR 13 M' f) {m : Nat} (hm : (f 19).toInt = (m : Int)) : LB 13 M' = if m = 0 then -1 else (f (20 + 2 * (m - 1))).toInt := by
  unfold LB
  rw [h.nb, hm]
  by_cases q : m = 0
  · rw [if_pos (by omega), if_pos q]
  · rw [if_neg (by omega), if_neg q, show ((m : Int) - 1).toNat = m - 1 by omega]
    rw [(h.ba (m - 1) (by omega)).1]
theorem st_back (hT : TT M N) (ht : rd N 135 13 = 2) (h : BX (row 137 N) M N) : R2 (mX4_readStatement_b32v1 2 13 4 M) (cal (mX7_backStatement 135 N) (fun q r => chk (isB r) (KK q r))) SRel := by
  unfold mX4_readStatement_b32v1 mX7_backStatement
  simp only [cal_ite, cal_cap, cal_cal, cal_chk, cal_some, cal_bnd]
  have nb : rd M 13 10 = rd N 137 19 := h.pr.nb
  have bb : 0 ≤ (rd N 137 19).toInt ∧ (rd N 137 19).toInt ≤ 8 := h.pr.bb
  refine R2.cl (eow_other (by decide)) (fun e he => R2.kr (fun _ => R2.br (fun b eb => R2.ir (fun c8 => ?_) (fun c8 => ?_))))
  · have eb : b = rd N 137 19 := eb
    have c8 := congrArg Int32.toInt c8
    rw [eb, show ((8 : Int32)).toInt = 8 from rfl] at c8
    rw [nb] at he
    have he : e = 5 := by
      rcases he with ⟨_, _, q⟩ | ⟨q, _⟩
      · exact q
      · have := q rfl; omega
    exact word_err (by rw [he]; decide) hT ht he
  · have eb : b = rd N 137 19 := eb
    have c8 := i_ne c8
    rw [eb, show ((8 : Int32)).toInt = 8 from rfl] at c8
    rw [nb] at he
    have he : e = 0 := by
      rcases he with ⟨_, q, _⟩ | ⟨_, q⟩
      · omega
      · exact q
    subst he
    obtain ⟨m, hm⟩ : ∃ m : Nat, (rd N 137 19).toInt = (m : Int) := ⟨(rd N 137 19).toInt.toNat, by omega⟩
    have tb : b.toInt = (m : Int) := by rw [eb]; exact hm
    have n20 : ((20 : Int32)).toInt = 20 := rfl
    have n1 : ((1 : Int32)).toInt = 1 := rfl
    have n2 : ((2 : Int32)).toInt = 2 := rfl
    have a1 := i_mulc (a := (2 : Int32)) (b := b) (c := 2) rfl (by omega) (by omega)
    have a2 := i_add (a := (20 : Int32)) (b := (2 : Int32) * b) (by omega) (by omega)
    have a3 := i_add (a := (20 : Int32) + (2 : Int32) * b) (b := 1) (by omega) (by omega)
    have a4 := i_sub (a := (20 : Int32) + (2 : Int32) * b) (b := 2) (by omega) (by omega)
    unfold mX4_readStatement_b51v1
    generalize (5000 : Nat) = n0
    have hF0 : (wF0.getD 4 0).toInt = 0 ∧ (wF1.getD 4 0).toInt = 999 ∧ (wF2.getD 4 0).toInt = 300 := by decide
    have go : ∀ lo : Int32, lo.toInt = (if m = 0 then 0 else (rd N 137 (20 + 2 * (m - 1))).toInt + 1) → R2 (mX4_readStatement_l55v1 2 13 4 n0 0 (Int32.ofNat 0) M) (cal (mX7_advance 135 N) (fun M3 _ => cal (mX7_backStatement_b48 135 b lo M3) (fun q r => chk (isB r) (KK q r)))) SRel := by
      intro lo hlo
      unfold mX7_backStatement_b48
      simp only [cal_ite, cal_cap, cal_cal, cal_chk, cal_some, cal_bnd]
      have bv : ∀ j : Nat, (j : Int) < (rd N 137 19).toInt → 0 ≤ (rd N 137 (20 + 2 * j)).toInt ∧ (rd N 137 (20 + 2 * j)).toInt ≤ 999 := h.pr.bv
      have lo0 : 0 ≤ lo.toInt := by
        rw [hlo]
        by_cases q : m = 0
        · rw [if_pos q]; omega
        · rw [if_neg q]
          have := bv (m - 1) (by omega); omega
      refine numX (w := 4) (i := 0) (j := 20 + 2 * m) (by decide) (by decide) h (fun M' N' hB _ hv => ?_) (by omega) (fun M1 => Pc.i (fun _ => kk_0 M1) (fun q => absurd rfl q)) (fun n1 M1 N1 v1 b1 r1 s1 t1 w1 => ?_)
      · rw [alw0, hv, hF0.1, hF0.2.1, LB_eq hB.pr hm, hlo, show ((999 : Int32)).toInt = 999 from rfl]
        by_cases q : m = 0
        · rw [if_pos q, if_pos q]
          exact ⟨fun h => h.1, fun h => ⟨h, fun _ => by omega⟩⟩
        · rw [if_neg q, if_neg q]
          have := bv (m - 1) (by omega)
          have e9 : row 137 N (20 + 2 * (m - 1)) = rd N 137 (20 + 2 * (m - 1)) := rfl
          rw [e9]
          exact ⟨fun h => ⟨by have := h.2 rfl; omega, h.1.2⟩, fun h => ⟨⟨by omega, h.2⟩, fun _ => by omega⟩⟩
      refine adv_1 ?_
      refine numX (w := 4) (i := 1) (j := 21 + 2 * m) (by decide) (by decide) b1 (fun M' N' hB _ hv => ?_) (by omega) (fun M1 => Pc.i (fun _ => kk_0 M1) (fun q => absurd rfl q)) (fun n2 M2 N2 v2 b2 r2 s2 t2 w2 => ?_)
      · rw [alw1, hv, hF0.2.2]; exact ⟨fun h => h.1, fun h => ⟨h, fun q => absurd q (by decide)⟩⟩
      refine adv_1 ?_
      refine step_z (by decide) (by decide) (by decide) (fun n3 M3 e3 => ?_)
      have b3 : BX (row 137 N) M3 N2 := by rw [e3]; exact b2.put3
      refine endX b3 (fun M4 N4 hT4 b4 s4 w4 => R2.kr (fun _ => R2.kr (fun _ => R2.br (fun N5 e5 => ?_))))
      have e5 : N5 = wr N4 137 19 (rd N4 137 19 + 1) := e5
      have z0 : rd M3 3 0 = v1 := by rw [e3, rd_wj (by decide), t2 0 (by decide)]; exact s1
      have z1 : rd M3 3 1 = v2 := by rw [e3, rd_wj (by decide)]; exact s2
      have m10 : rd M4 13 10 = rd N 137 19 := b4.pr.nb
      have q19 : rd N4 137 19 = rd N 137 19 := by
        have := congrFun (w4.trans w2) 19
        rw [w1, upf_n (by omega), upf_n (by omega)] at this; exact this
      rw [q19] at e5
      have a5 := i_add (a := rd N 137 19) (b := 1) (by omega) (by omega)
      refine fin2 (N0 := N5) hT4 b4 (by rw [e5]; exact k137 KS.rf) (Pc.mono (acc_back (m := m) (by rw [m10]; exact hm) (by omega)) (fun q hq => ?_))
      rw [hq, s4, s4, z0, z1, m10]
      have g5 : row 137 N5 = upf (upf (upf (row 137 N) (20 + 2 * m) v1) (21 + 2 * m) v2) 19 (rd N 137 19 + 1) := by rw [e5, row_wr, w4, w2, w1]
      rw [g5]
      refine ⟨b4.pr.back hm (by omega) ⟨by omega, by have := r1.2; exact this⟩ (fun i hi => by have h1 := r1.1; rw [hlo, if_neg (by omega), show m - 1 = i by omega] at h1; exact h1) (by omega), ((KS.rf.wr ?_).wr ?_).wr ?_⟩ <;> decide
    refine R2.mono (Q := SRel) ?_ (fun _ _ h => h)
    by_cases q : m = 0
    · have b0 : b = 0 := i_eq.mpr (by rw [tb, q]; rfl)
      refine adv_cg (k' := fun M3 _ => cal (mX7_backStatement_b48 135 b 0 M3) (fun q r => chk (isB r) (KK q r))) (fun N' _ => if_pos b0) (go 0 (by rw [if_pos q]; rfl))
    · have b0 : ¬ b = 0 := fun e => by rw [e] at tb; have : ((0 : Int32)).toInt = 0 := rfl; omega
      have bv := h.pr.bv (m - 1) (by show ((m - 1 : Nat) : Int) < (rd N 137 19).toInt; omega)
      have bv : 0 ≤ (rd N 137 (20 + 2 * (m - 1))).toInt ∧ (rd N 137 (20 + 2 * (m - 1))).toInt ≤ 999 := bv
      have a6 := i_add (a := rd N 137 (20 + 2 * (m - 1))) (b := 1) (by omega) (by omega)
      refine adv_cg (k' := fun M3 _ => cal (mX7_backStatement_b48 135 b (rd N 137 (20 + 2 * (m - 1)) + 1) M3) (fun q r => chk (isB r) (KK q r))) (fun N' kN => ?_) (go _ (by rw [if_neg q, a6, n1]))
      refine (if_neg b0).trans ?_
      have e : rd N' (135 + 2) ((20 : Int32) + (2 : Int32) * b - (2 : Int32)).toNatClampNeg = rd N 137 (20 + 2 * (m - 1)) := by
        rw [i_clamp, show ((20 : Int32) + (2 : Int32) * b - (2 : Int32)).toInt.toNat = 20 + 2 * (m - 1) by omega]
        exact kN 137 _ (fun z => absurd z.1 (by decide))
      rw [e]
      unfold chk
      rw [if_pos (ok_in (by omega) (by omega))]
/-- no word, or none that is known -/
theorem st_none (hT : TT M N) : R2 (mX4_readStatement_b32 2 13 M) (cal (mX7_fail 135 2 N) (fun q r => chk (isB r) (chk (isB r) (KK q r)))) SRel := by
  unfold mX4_readStatement_b32 mX4_readStatement_b51
  refine R2.cl pc_ein (fun e he => ?_)
  rw [hT.tk] at he
  have h0 : ¬ e = 0 ∧ e = (if rd N 135 13 = 1 then 1 else 2) := by
    rcases he with ⟨q, rfl⟩ | ⟨q, _, rfl⟩ | ⟨q, _, rfl⟩
    · rw [if_pos q]; exact ⟨by decide, rfl⟩
    · rw [if_neg q]; exact ⟨by decide, rfl⟩
    · rw [if_neg q]; exact ⟨by decide, rfl⟩
  exact err2 h0.1 (tail_err0 h0.1 5000 0 M) hT.st h0.2 (fun M1 => Pc.k (fun _ => kk_0 M1))
theorem cap_cap {ρ σ β : Type} {x : Option ρ} {k : ρ → Option σ} {k' : σ → Option β} : cap (cap x k) k' = cap x (fun r => cap (k r) k') := by cases x <;> rfl
theorem cap_ite {σ β : Type} {c : Prop} [Decidable c] {a b : Option σ} {k' : σ → Option β} : cap (ite2 c a b) k' = ite2 c (cap a k') (cap b k') := by unfold ite2; split <;> rfl
theorem cap_some {σ β : Type} {r : σ} {k' : σ → Option β} : cap (some r) k' = k' r := rfl
theorem chk2 {r : Int32} {q : Mem} : chk (isB r) (chk (isB r) (KK q r)) = chk (isB r) (KK q r) := by
  unfold chk; split <;> rfl
/-- a statement -/
theorem st_all (hT : TT M N) (h : BX (row 137 N) M N) : R2 (mX4_readStatement 2 13 M) (cal (mX7_statement 135 N) KK) SRel := by
  have iw : ∀ k, k < 11 → Pc (mX7_isWord 135 k N) (fun r => (r = 1 ∧ rd N 135 13 = 2 ∧ Sp N k) ∨ (r = 0 ∧ ¬ (rd N 135 13 = 2 ∧ Sp N k))) := fun k hk => pc_isWord hk hT
  -- what the class finds
  have cls : ∀ (y : Option (Mem × Int32)), (∀ w, w < 11 → rd N 135 13 = 2 → Sp N w → R2 (mX4_readStatement_b32v1 2 13 w M) y SRel) → ((∀ w, w < 11 → ¬ (rd N 135 13 = 2 ∧ Sp N w)) → R2 (mX4_readStatement_b32 2 13 M) y SRel) → R2 (mX4_readStatement 2 13 M) y SRel := by
    intro y h1 h2
    unfold mX4_readStatement
    rw [hT.tk, hT.st, hT.nx]
    refine R2.il (fun c => R2.kl (fun _ => R2.cl (pc_find hT) (fun r p => ?_))) (fun c => h2 (fun w _ q => c q.1))
    rcases p with ⟨rfl, p⟩ | ⟨w, rfl, hw, p⟩
    · exact h2 (fun w hw q => p w hw q.2)
    · exact R2.kl (fun _ => h1 w hw c p)
  unfold mX7_statement mX7_statement_b46 mX7_toolHere
  simp only [cal_ite, cal_cap, cal_cal, cal_chk, cal_some, cal_bnd, chk2, cap_cap, cap_ite, cap_some]
  -- the first words that are not there, then one that is
  have one : ∀ k, k < 11 → rd N 135 13 = 2 ∧ Sp N k → ∀ (y : Option (Mem × Int32)), R2 (mX4_readStatement_b32v1 2 13 k M) y SRel → R2 (mX4_readStatement 2 13 M) y SRel := fun k hk hs y hy =>
    cls y (fun w hw _ p => by rw [Sp.one p hs.2 hw hk]; exact hy) (fun q => absurd hs (q k hk))
  have q0 : ∀ r : Int32, r = 1 → ¬ r = 0 := fun r e q => by rw [e] at q; exact absurd q (by decide)
  refine R2.cr (iw 0 (by decide)) (fun r0 p0 => R2.ir (fun c0 => ?_) (fun c0 => ?_))
  rotate_left
  · rcases p0 with ⟨_, p0⟩ | ⟨q, _⟩
    · exact one 0 (by decide) p0 _ (st_sheet hT h)
    · exact absurd q c0
  refine R2.cr (iw 1 (by decide)) (fun r1 p1 => R2.ir (fun c1 => ?_) (fun c1 => ?_))
  rotate_left
  · rcases p1 with ⟨_, p1⟩ | ⟨q, _⟩
    · exact one 1 (by decide) p1 _ (st_leg hT p1.1 h)
    · exact absurd q c1
  refine R2.cr (iw 2 (by decide)) (fun r2 p2 => R2.ir (fun c2 => ?_) (fun c2 => ?_))
  rotate_left
  · rcases p2 with ⟨_, p2⟩ | ⟨q, _⟩
    · refine R2.cr (iw 2 (by decide)) (fun r p => ?_)
      rcases p with ⟨rfl, _⟩ | ⟨_, q⟩
      · exact one 2 (by decide) p2 _ (st_bend (Or.inl ⟨rfl, rfl⟩) hT p2.1 h)
      · exact absurd p2 q
    · exact absurd q c2
  refine R2.cr (iw 3 (by decide)) (fun r3 p3 => R2.ir (fun c3 => ?_) (fun c3 => ?_))
  rotate_left
  · rcases p3 with ⟨_, p3⟩ | ⟨q, _⟩
    · refine R2.cr (iw 2 (by decide)) (fun r p => ?_)
      rcases p with ⟨_, p⟩ | ⟨rfl, _⟩
      · exact absurd (Sp.one p.2 p3.2 (by decide) (by decide)) (by decide)
      · exact one 3 (by decide) p3 _ (st_bend (Or.inr ⟨rfl, rfl⟩) hT p3.1 h)
    · exact absurd q c3
  refine R2.cr (iw 4 (by decide)) (fun r4 p4 => R2.ir (fun c4 => ?_) (fun c4 => ?_))
  rotate_left
  · rcases p4 with ⟨_, p4⟩ | ⟨q, _⟩
    · exact one 4 (by decide) p4 _ (st_back hT p4.1 h)
    · exact absurd q c4
  refine R2.cr (iw 10 (by decide)) (fun r10 p10 => R2.ir (fun c10 => ?_) (fun c10 => ?_))
  rotate_left
  · rcases p10 with ⟨_, p10⟩ | ⟨q, _⟩
    · exact one 10 (by decide) p10 _ (st_cost hT h)
    · exact absurd q c10
  refine R2.cr (iw 5 (by decide)) (fun r5 p5 => R2.ir (fun c5 => ?_) (fun c5 => ?_))
  rotate_left
  · rcases p5 with ⟨_, p5⟩ | ⟨q, _⟩
    · refine R2.ir (fun q => absurd q (by decide)) (fun _ => one 5 (by decide) p5 _ (st_tool0 (t := 0) (by decide) hT h))
    · exact absurd q c5
  refine R2.cr (iw 6 (by decide)) (fun r6 p6 => R2.ir (fun c6 => ?_) (fun c6 => ?_))
  rotate_left
  · rcases p6 with ⟨_, p6⟩ | ⟨q, _⟩
    · refine R2.ir (fun q => absurd q (by decide)) (fun _ => one 6 (by decide) p6 _ (st_tool0 (t := 1) (by decide) hT h))
    · exact absurd q c6
  refine R2.cr (iw 7 (by decide)) (fun r7 p7 => R2.ir (fun c7 => ?_) (fun c7 => ?_))
  rotate_left
  · rcases p7 with ⟨_, p7⟩ | ⟨q, _⟩
    · refine R2.ir (fun q => absurd q (by decide)) (fun _ => one 7 (by decide) p7 _ (st_tool0 (t := 2) (by decide) hT h))
    · exact absurd q c7
  refine R2.cr (iw 8 (by decide)) (fun r8 p8 => R2.ir (fun c8 => ?_) (fun c8 => ?_))
  rotate_left
  · rcases p8 with ⟨_, p8⟩ | ⟨q, _⟩
    · refine R2.ir (fun q => absurd q (by decide)) (fun _ => one 8 (by decide) p8 _ (st_tool0 (t := 3) (by decide) hT h))
    · exact absurd q c8
  refine R2.cr (iw 9 (by decide)) (fun r9 p9 => R2.ir (fun c9 => ?_) (fun c9 => ?_))
  rotate_left
  · rcases p9 with ⟨_, p9⟩ | ⟨q, _⟩
    · refine R2.ir (fun q => absurd q (by decide)) (fun _ => one 9 (by decide) p9 _ (st_tool0 (t := 4) (by decide) hT h))
    · exact absurd q c9
  refine R2.ir (fun _ => cls _ (fun w hw t p => ?_) (fun _ => ?_)) (fun q => absurd trivial q)
  · exfalso
    have key : ∀ r k, ((r = 1 ∧ rd N 135 13 = 2 ∧ Sp N k) ∨ (r = 0 ∧ ¬ (rd N 135 13 = 2 ∧ Sp N k))) → r = (0 : Int32) → ¬ Sp N k := fun r k h0 h1 q => by
      rcases h0 with ⟨e, _⟩ | ⟨_, e⟩
      · rw [h1] at e; exact absurd e (by decide)
      · exact e ⟨t, q⟩
    have h11 : w = 0 ∨ w = 1 ∨ w = 2 ∨ w = 3 ∨ w = 4 ∨ w = 5 ∨ w = 6 ∨ w = 7 ∨ w = 8 ∨ w = 9 ∨ w = 10 := by omega
    rcases h11 with rfl | rfl | rfl | rfl | rfl | rfl | rfl | rfl | rfl | rfl | rfl
    · exact key _ _ p0 c0 p
    · exact key _ _ p1 c1 p
    · exact key _ _ p2 c2 p
    · exact key _ _ p3 c3 p
    · exact key _ _ p4 c4 p
    · exact key _ _ p5 c5 p
    · exact key _ _ p6 c6 p
    · exact key _ _ p7 c7 p
    · exact key _ _ p8 c8 p
    · exact key _ _ p9 c9 p
    · exact key _ _ p10 c10 p
  · have := st_none hT
    simp only [chk2] at this
    exact this
end BS
end
/-! part 60l.load -/
section
/-! load, by both -/
theorem rd_cpk {M : Mem} {a b n c j : Nat} (h : c ≠ b) : rd (cpy M a b 0 0 n) c j = rd M c j := congrFun (cpy_o (M := M) (a := a) (sp := 0) (dp := 0) (n := n) c h).1 j
theorem rd_cpe {M : Mem} {a b n j : Nat} (h : j < n) : rd (cpy M a b 0 0 n) b j = rd M a j := by
  show (cpy M a b 0 0 n).1 b j = _
  rw [cpy_s]
  unfold va_cpy
  rw [if_pos (by omega), show 0 + (j - 0) = j by omega]
  rfl
section LDS
variable {M N M0 N0 : Mem} {f : Nat → Int32} {k k' : Nat}
theorem pc_copyFrom (hd : k + 8 ≤ k' ∨ k' + 8 ≤ k) : Pc (mX1_copyFrom k k' M) (fun q => (∀ j, j ≤ 14 → j ≠ 1 → j ≠ 6 → j ≠ 11 → j ≠ 12 → rd q.1 k j = rd M k' j) ∧ (∀ j, j < 9 → rd q.1 (k + 1) j = rd M (k' + 1) j) ∧ (∀ j, j < 10 → rd q.1 (k + 2) j = rd M (k' + 2) j) ∧ (∀ j, j < 8 → rd q.1 (k + 3) j = rd M (k' + 3) j ∧ rd q.1 (k + 4) j = rd M (k' + 4) j ∧ rd q.1 (k + 5) j = rd M (k' + 5) j ∧ rd q.1 (k + 6) j = rd M (k' + 6) j ∧ rd q.1 (k + 7) j = rd M (k' + 7) j) ∧ KS (fun c _ => k ≤ c ∧ c < k + 8) M q.1) := by
  unfold mX1_copyFrom mX1_putSheet mX1_putCosts
  simp only [cal_ite, cal_cap, cal_cal, cal_chk, cal_some, cal_bnd]
  refine Pc.b (fun M1 e1 => Pc.b (fun M2 e2 => Pc.b (fun M3 e3 => Pc.b (fun M4 e4 => Pc.b (fun M5 e5 => Pc.b (fun M6 e6 => Pc.b (fun M7 e7 => Pc.b (fun M8 e8 => Pc.b (fun M9 e9 => Pc.b (fun M10 e10 => Pc.b (fun M11 e11 => Pc.b (fun M12 e12 => Pc.b (fun M13 e13 => Pc.b (fun M14 e14 => Pc.b (fun M15 e15 => Pc.b (fun M16 e16 => Pc.b (fun M17 e17 => Pc.b (fun M18 e18 => Pc.ok ?_))))))))))))))))))
  have kp : ∀ c j, ¬ (k ≤ c ∧ c < k + 8) → rd M18 c j = rd M c j := fun c j h => by
    rw [e18, rd_cpk (by omega), e17, rd_cpk (by omega), e16, rd_cpk (by omega), e15, rd_wk (by omega), e14, rd_wk (by omega), e13, rd_cpk (by omega), e12, rd_cpk (by omega), e11, rd_wk (by omega), e10, rd_wk (by omega), e9, rd_wk (by omega), e8, rd_wk (by omega), e7, rd_cpk (by omega), e6, rd_wk (by omega), e5, rd_wk (by omega), e4, rd_wk (by omega), e3, rd_wk (by omega), e2, rd_cpk (by omega), e1, rd_wk (by omega)]
  have m1 : ∀ c j, ¬ (k ≤ c ∧ c < k + 8) → rd M1 c j = rd M c j := fun c j h => by rw [e1, rd_wk (by omega)]
  have m2 : ∀ c j, ¬ (k ≤ c ∧ c < k + 8) → rd M2 c j = rd M c j := fun c j h => by rw [e2, rd_cpk (by omega)]; exact m1 c j h
  have m3 : ∀ c j, ¬ (k ≤ c ∧ c < k + 8) → rd M3 c j = rd M c j := fun c j h => by rw [e3, rd_wk (by omega)]; exact m2 c j h
  have m6 : ∀ c j, ¬ (k ≤ c ∧ c < k + 8) → rd M6 c j = rd M c j := fun c j h => by rw [e6, rd_wk (by omega), e5, rd_wk (by omega), e4, rd_wk (by omega)]; exact m3 c j h
  have m7 : ∀ c j, ¬ (k ≤ c ∧ c < k + 8) → rd M7 c j = rd M c j := fun c j h => by rw [e7, rd_cpk (by omega)]; exact m6 c j h
  have m10 : ∀ c j, ¬ (k ≤ c ∧ c < k + 8) → rd M10 c j = rd M c j := fun c j h => by rw [e10, rd_wk (by omega), e9, rd_wk (by omega), e8, rd_wk (by omega)]; exact m7 c j h
  have m11 : ∀ c j, ¬ (k ≤ c ∧ c < k + 8) → rd M11 c j = rd M c j := fun c j h => by rw [e11, rd_wk (by omega)]; exact m10 c j h
  have m12 : ∀ c j, ¬ (k ≤ c ∧ c < k + 8) → rd M12 c j = rd M c j := fun c j h => by rw [e12, rd_cpk (by omega)]; exact m11 c j h
  have m13 : ∀ c j, ¬ (k ≤ c ∧ c < k + 8) → rd M13 c j = rd M c j := fun c j h => by rw [e13, rd_cpk (by omega)]; exact m12 c j h
  have m14 : ∀ c j, ¬ (k ≤ c ∧ c < k + 8) → rd M14 c j = rd M c j := fun c j h => by rw [e14, rd_wk (by omega)]; exact m13 c j h
  have m15 : ∀ c j, ¬ (k ≤ c ∧ c < k + 8) → rd M15 c j = rd M c j := fun c j h => by rw [e15, rd_wk (by omega)]; exact m14 c j h
  have m16 : ∀ c j, ¬ (k ≤ c ∧ c < k + 8) → rd M16 c j = rd M c j := fun c j h => by rw [e16, rd_cpk (by omega)]; exact m15 c j h
  have m17 : ∀ c j, ¬ (k ≤ c ∧ c < k + 8) → rd M17 c j = rd M c j := fun c j h => by rw [e17, rd_cpk (by omega)]; exact m16 c j h
  refine ⟨fun j h1 h2 h3 h4 h5 => ?_, fun j hj => ?_, fun j hj => ?_, fun j hj => ⟨?_, ?_, ?_, ?_, ?_⟩, kp⟩
  · show rd M18 k j = _
    rw [e18, rd_cpk (by omega), e17, rd_cpk (by omega), e16, rd_cpk (by omega), e15]
    by_cases q14 : j = 14
    · subst q14; rw [rd_we]; exact m14 _ _ (by omega)
    rw [rd_wj q14, e14]
    by_cases q13 : j = 13
    · subst q13; rw [rd_we]; exact m13 _ _ (by omega)
    rw [rd_wj q13, e13, rd_cpk (by omega), e12, rd_cpk (by omega), e11]
    by_cases q10 : j = 10
    · subst q10; rw [rd_we]; exact m10 _ _ (by omega)
    rw [rd_wj q10, e10]
    by_cases q9 : j = 9
    · subst q9; rw [rd_we]; exact m7 _ _ (by omega)
    rw [rd_wj q9, e9]
    by_cases q8 : j = 8
    · subst q8; rw [rd_we]; exact m7 _ _ (by omega)
    rw [rd_wj q8, e8]
    by_cases q7 : j = 7
    · subst q7; rw [rd_we]; exact m7 _ _ (by omega)
    rw [rd_wj q7, e7, rd_cpk (by omega), e6]
    by_cases q5 : j = 5
    · subst q5; rw [rd_we]; exact m3 _ _ (by omega)
    rw [rd_wj q5, e5]
    by_cases q4 : j = 4
    · subst q4; rw [rd_we]; exact m3 _ _ (by omega)
    rw [rd_wj q4, e4]
    by_cases q3 : j = 3
    · subst q3; rw [rd_we]; exact m3 _ _ (by omega)
    rw [rd_wj q3, e3]
    by_cases q2 : j = 2
    · subst q2; rw [rd_we]; exact m2 _ _ (by omega)
    rw [rd_wj q2, e2, rd_cpk (by omega), e1]
    have q0 : j = 0 := by omega
    subst q0
    exact rd_we
  · show rd M18 (k + 1) j = _
    rw [e18, rd_cpk (by omega), e17, rd_cpk (by omega), e16, rd_cpk (by omega), e15, rd_wk (by omega), e14, rd_wk (by omega), e13, rd_cpk (by omega), e12, rd_cpk (by omega), e11, rd_wk (by omega), e10, rd_wk (by omega), e9, rd_wk (by omega), e8, rd_wk (by omega), e7, rd_cpk (by omega), e6, rd_wk (by omega), e5, rd_wk (by omega), e4, rd_wk (by omega), e3, rd_wk (by omega), e2, rd_cpe hj]
    exact m1 _ _ (by omega)
  · show rd M18 (k + 2) j = _
    rw [e18, rd_cpk (by omega), e17, rd_cpk (by omega), e16, rd_cpk (by omega), e15, rd_wk (by omega), e14, rd_wk (by omega), e13, rd_cpk (by omega), e12, rd_cpk (by omega), e11, rd_wk (by omega), e10, rd_wk (by omega), e9, rd_wk (by omega), e8, rd_wk (by omega), e7, rd_cpe hj]
    exact m6 _ _ (by omega)
  · show rd M18 (k + 3) j = _
    rw [e18, rd_cpk (by omega), e17, rd_cpk (by omega), e16, rd_cpk (by omega), e15, rd_wk (by omega), e14, rd_wk (by omega), e13, rd_cpk (by omega), e12, rd_cpe hj]
    exact m11 _ _ (by omega)
  · show rd M18 (k + 4) j = _
    rw [e18, rd_cpk (by omega), e17, rd_cpk (by omega), e16, rd_cpk (by omega), e15, rd_wk (by omega), e14, rd_wk (by omega), e13, rd_cpe hj]
    exact m12 _ _ (by omega)
  · show rd M18 (k + 5) j = _
    rw [e18, rd_cpk (by omega), e17, rd_cpk (by omega), e16, rd_cpe hj]
    exact m15 _ _ (by omega)
  · show rd M18 (k + 6) j = _
    rw [e18, rd_cpk (by omega), e17, rd_cpe hj]
    exact m16 _ _ (by omega)
  · show rd M18 (k + 7) j = _
    rw [e18, rd_cpe hj]
    exact m17 _ _ (by omega)
/-- a part copied is that of the same row -/
theorem PR.copy {M' : Mem} (h : PR k' M f) (c0 : ∀ j, j ≤ 14 → j ≠ 1 → j ≠ 6 → j ≠ 11 → j ≠ 12 → rd M' k j = rd M k' j) (c1 : ∀ j, j < 9 → rd M' (k + 1) j = rd M (k' + 1) j) (c2 : ∀ j, j < 10 → rd M' (k + 2) j = rd M (k' + 2) j) (c3 : ∀ j, j < 8 → rd M' (k + 3) j = rd M (k' + 3) j ∧ rd M' (k + 4) j = rd M (k' + 4) j ∧ rd M' (k + 5) j = rd M (k' + 5) j ∧ rd M' (k + 6) j = rd M (k' + 6) j ∧ rd M' (k + 7) j = rd M (k' + 7) j) : PR k M' f := by
  have q : ∀ j, j ≤ 14 → j ≠ 1 → j ≠ 6 → j ≠ 11 → j ≠ 12 → rd M' k j = rd M k' j := c0
  refine ⟨?_, h.lb, h.nn, fun j hj => ?_, ?_, fun b hb => ?_, ?_, ?_, h.fl, fun j hj => ?_, ?_, ?_, h.bb, fun j hj => ?_, h.bw, ?_, ?_, h.sb, fun j hj => ?_⟩
  · rw [q 0 (by decide) (by decide) (by decide) (by decide) (by decide)]; exact h.lc
  · have := h.lb
    rw [c1 j (by omega)]; exact h.leg j hj
  · rw [q 2 (by decide) (by decide) (by decide) (by decide) (by decide)]; exact h.ub
  · rw [q 2 (by decide) (by decide) (by decide) (by decide) (by decide)]; exact h.up b hb
  · rw [q 2 (by decide) (by decide) (by decide) (by decide) (by decide)]; exact h.uz
  · rw [q 3 (by decide) (by decide) (by decide) (by decide) (by decide), q 4 (by decide) (by decide) (by decide) (by decide) (by decide), q 5 (by decide) (by decide) (by decide) (by decide) (by decide)]; exact h.sh
  · rw [c2 j hj]; exact h.tl j hj
  · rw [q 7 (by decide) (by decide) (by decide) (by decide) (by decide), q 8 (by decide) (by decide) (by decide) (by decide) (by decide), q 9 (by decide) (by decide) (by decide) (by decide) (by decide)]; exact h.co
  · rw [q 10 (by decide) (by decide) (by decide) (by decide) (by decide)]; exact h.nb
  · have := h.bb
    rw [(c3 j (by omega)).1, (c3 j (by omega)).2.1]; exact h.ba j hj
  · rw [q 13 (by decide) (by decide) (by decide) (by decide) (by decide)]; exact h.ma
  · rw [q 14 (by decide) (by decide) (by decide) (by decide) (by decide)]; exact h.ns
  · have := h.sb
    have c := c3 j (by omega)
    rw [c.2.2.1, c.2.2.2.1, c.2.2.2.2]; exact h.st j hj
/-- what an empty text defines -/
def r0 (j : Nat) : Int32 := if j = 36 then 10 else if j = 37 then 10 else if j = 38 then 40 else if j = 39 then 300 else if j = 40 then 600 else if j = 41 then 300 else if j = 42 then 600 else if j = 43 then 200 else if j = 44 then 400 else if j = 46 then 9999 else if j = 49 then 1 else if j = 50 then 1 else if j = 51 then 1 else 0
theorem pc_clear : Pc (mX1_clear 13 M) (fun q => PR 13 q.1 r0 ∧ KS A13 M q.1) := by
  unfold mX1_clear mX1_putSheet mX1_putCosts mX1_dropSteps
  simp only [cal_ite, cal_cap, cal_cal, cal_chk, cal_some, cal_bnd]
  refine Pc.b (fun M1 e1 => Pc.b (fun M2 e2 => Pc.b (fun M3 e3 => Pc.b (fun M4 e4 => Pc.b (fun M5 e5 => Pc.b (fun M6 e6 => ?_))))))
  refine Pc.m (pc_putTool (t := 0) (by decide)) (fun M7 _ e7 => Pc.m (pc_putTool (t := 1) (by decide)) (fun M8 _ e8 => Pc.m (pc_putTool (t := 2) (by decide)) (fun M9 _ e9 => Pc.m (pc_putTool (t := 3) (by decide)) (fun M10 _ e10 => Pc.m (pc_putTool (t := 4) (by decide)) (fun M11 _ e11 => ?_)))))
  refine Pc.b (fun M12 e12 => Pc.b (fun M13 e13 => Pc.b (fun M14 e14 => Pc.b (fun M15 e15 => Pc.b (fun M16 e16 => Pc.ok ?_)))))
  have e7 : M7 = wr (wr M6 15 0 300) 15 1 600 := e7
  have e8 : M8 = wr (wr M7 15 2 300) 15 3 600 := e8
  have e9 : M9 = wr (wr M8 15 4 200) 15 5 400 := e9
  have e10 : M10 = wr (wr M9 15 6 0) 15 7 9999 := e10
  have e11 : M11 = wr (wr M10 15 8 0) 15 9 0 := e11
  have e : M16 = wr (wr (wr (wr (wr (wr (wr (wr (wr (wr (wr (wr (wr (wr (wr (wr (wr (wr (wr (wr (wr M 13 0 0) 13 2 0) 13 10 0) 13 3 10) 13 4 10) 13 5 40) 15 0 300) 15 1 600) 15 2 300) 15 3 600) 15 4 200) 15 5 400) 15 6 0) 15 7 9999) 15 8 0) 15 9 0) 13 7 1) 13 8 1) 13 9 1) 13 13 0) 13 14 0 := by
    rw [e16, e15, e14, e13, e12, e11, e10, e9, e8, e7, e6, e5, e4, e3, e2, e1]
  clear e16 e15 e14 e13 e12 e11 e10 e9 e8 e7 e6 e5 e4 e3 e2 e1
  show PR 13 M16 r0 ∧ KS A13 M M16
  have s0 : ∀ j v, rd M16 13 j = v → rd M16 13 j = v := fun _ _ h => h
  refine ⟨⟨?_, by decide, by decide, fun j hj => ?_, ?_, fun b hb => ?_, ?_, ?_, rfl, fun j hj => ?_, ?_, ?_, by decide, fun j hj => ?_, fun j hj => ?_, ?_, ?_, by decide, fun j hj => ?_⟩, ?_⟩
  · rw [e]; (repeat (first | rw [rd_we] | rw [rd_wk (by omega)] | rw [rd_wj (by omega)])); rfl
  · exfalso; have : ((r0 1)).toInt = 0 := rfl; omega
  · have : rd M16 13 2 = 0 := by rw [e]; (repeat (first | rw [rd_we] | rw [rd_wk (by omega)] | rw [rd_wj (by omega)]))
    rw [this]; decide
  · exfalso; have : ((r0 0)).toInt = 0 := rfl; omega
  · have : rd M16 13 2 = 0 := by rw [e]; (repeat (first | rw [rd_we] | rw [rd_wk (by omega)] | rw [rd_wj (by omega)]))
    rw [this]; decide
  · refine ⟨?_, ?_, ?_⟩ <;> (rw [e]; (repeat (first | rw [rd_we] | rw [rd_wk (by omega)] | rw [rd_wj (by omega)])); rfl)
  · have h10 : j = 0 ∨ j = 1 ∨ j = 2 ∨ j = 3 ∨ j = 4 ∨ j = 5 ∨ j = 6 ∨ j = 7 ∨ j = 8 ∨ j = 9 := by omega
    rcases h10 with rfl | rfl | rfl | rfl | rfl | rfl | rfl | rfl | rfl | rfl <;> (rw [e]; (repeat (first | rw [rd_we] | rw [rd_wk (by omega)] | rw [rd_wj (by omega)])); rfl)
  · refine ⟨?_, ?_, ?_⟩ <;> (rw [e]; (repeat (first | rw [rd_we] | rw [rd_wk (by omega)] | rw [rd_wj (by omega)])); rfl)
  · rw [e]; (repeat (first | rw [rd_we] | rw [rd_wk (by omega)] | rw [rd_wj (by omega)])); rfl
  · exfalso; have : ((r0 19)).toInt = 0 := rfl; omega
  · exfalso; have : ((r0 19)).toInt = 0 := rfl; omega
  · rw [e]; (repeat (first | rw [rd_we] | rw [rd_wk (by omega)] | rw [rd_wj (by omega)])); rfl
  · rw [e]; (repeat (first | rw [rd_we] | rw [rd_wk (by omega)] | rw [rd_wj (by omega)])); rfl
  · exfalso; have : ((r0 53)).toInt = 0 := rfl; omega
  · rw [e]
    repeat (first | exact KS.rf | refine KS.wr ?_ (by decide))
end LDS
end
/-! part 60m.load2 -/
section
/-! the reference's reset, copy; the loop over statements -/
section LDT
variable {M N M0 N0 : Mem} {f : Nat → Int32} {k k' : Nat}
theorem pc_lay {j : Nat} {a b c : Int32} (hj : j + 2 < 86) : Pc (mX7_lay 135 (Int32.ofNat j) a b c N) (fun q => q.1 = wr (wr (wr N 137 j a) 137 (j + 1) b) 137 (j + 2) c) := by
  unfold mX7_lay
  have tj : (Int32.ofNat j).toInt = (j : Int) := t_of (by omega)
  have n1 : ((1 : Int32)).toInt = 1 := rfl
  have n2 : ((2 : Int32)).toInt = 2 := rfl
  have e1 := i_add (a := Int32.ofNat j) (b := 1) (by omega) (by omega)
  have e2 := i_add (a := Int32.ofNat j) (b := 2) (by omega) (by omega)
  refine Pc.k (fun _ => Pc.b (fun M3 e3 => Pc.k (fun _ => Pc.b (fun M6 e6 => Pc.k (fun _ => Pc.b (fun M9 e9 => Pc.ok ?_))))))
  rw [c_of (by omega)] at e3
  rw [i_clamp, show (Int32.ofNat j + 1).toInt.toNat = j + 1 by omega] at e6
  rw [i_clamp, show (Int32.ofNat j + 2).toInt.toNat = j + 2 by omega] at e9
  show M9 = _
  rw [e9, e6, e3]
theorem reset_p : ∀ (n i : Nat) (N : Mem), i ≤ 86 → KS (fun k _ => k = 137) N0 N → (∀ p, p < i → rd N 137 p = 0) → Pc (mX7_reset_l2 135 n (Int32.ofNat i) N) (fun q => KS (fun k _ => k = 137) N0 q.1 ∧ ∀ p, p < 86 → rd q.1 137 p = r0 p) := by
  intro n
  induction n with
  | zero => intro i N _ _ _; exact Pc.n
  | succ n IH =>
    intro i N hi hk hz
    show Pc (mX7_reset_b2 135 (mX7_reset_l2 135 n) (Int32.ofNat i) N) _
    unfold mX7_reset_b2
    have ti : (Int32.ofNat i).toInt = (i : Int) := t_of (by omega)
    refine Pc.i (fun c => ?_) (fun c => Pc.k (fun _ => Pc.b (fun M19 e19 => Pc.b (fun y ey => ?_))))
    · have c := i_le.mp c
      rw [ti, show ((86 : Int32)).toInt = 86 from rfl] at c
      refine Pc.m (pc_lay (j := 36) (by decide)) (fun M4 _ e4 => Pc.m (pc_lay (j := 39) (by decide)) (fun M7 _ e7 => Pc.m (pc_lay (j := 42) (by decide)) (fun M10 _ e10 => Pc.m (pc_lay (j := 45) (by decide)) (fun M13 _ e13 => Pc.m (pc_lay (j := 49) (by decide)) (fun M16 _ e16 => Pc.ok ?_)))))
      have e4 : M4 = wr (wr (wr N 137 36 10) 137 37 10) 137 38 40 := e4
      have e7 : M7 = wr (wr (wr M4 137 39 300) 137 40 600) 137 41 300 := e7
      have e10 : M10 = wr (wr (wr M7 137 42 600) 137 43 200) 137 44 400 := e10
      have e13 : M13 = wr (wr (wr M10 137 45 0) 137 46 9999) 137 47 0 := e13
      have e16 : M16 = wr (wr (wr M13 137 49 1) 137 50 1) 137 51 1 := e16
      refine ⟨?_, fun p hp => ?_⟩
      · show KS (fun k _ => k = 137) N0 M16
        rw [e16, e13, e10, e7, e4]
        exact (((((((((((((((hk.wr rfl).wr rfl).wr rfl).wr rfl).wr rfl).wr rfl).wr rfl).wr rfl).wr rfl).wr rfl).wr rfl).wr rfl).wr rfl).wr rfl).wr rfl)
      · show rd M16 137 p = r0 p
        have hz := hz p (by omega)
        by_cases q : 36 ≤ p ∧ p ≤ 51
        · have h16 : p = 36 ∨ p = 37 ∨ p = 38 ∨ p = 39 ∨ p = 40 ∨ p = 41 ∨ p = 42 ∨ p = 43 ∨ p = 44 ∨ p = 45 ∨ p = 46 ∨ p = 47 ∨ p = 48 ∨ p = 49 ∨ p = 50 ∨ p = 51 := by omega
          rcases h16 with rfl | rfl | rfl | rfl | rfl | rfl | rfl | rfl | rfl | rfl | rfl | rfl | rfl | rfl | rfl | rfl <;> (rw [e16, e13, e10, e7, e4]; (repeat (first | rw [rd_we] | rw [rd_wk (by omega)] | rw [rd_wj (by omega)])); first | rfl | exact hz)
        · have e : rd M16 137 p = rd N 137 p := by
            rw [e16, rd_wj (by omega), rd_wj (by omega), rd_wj (by omega), e13, rd_wj (by omega), rd_wj (by omega), rd_wj (by omega), e10, rd_wj (by omega), rd_wj (by omega), rd_wj (by omega), e7, rd_wj (by omega), rd_wj (by omega), rd_wj (by omega), e4, rd_wj (by omega), rd_wj (by omega), rd_wj (by omega)]
          rw [e, hz]
          unfold r0
          repeat rw [if_neg (by omega)]
    · have c := i_nle c
      rw [ti, show ((86 : Int32)).toInt = 86 from rfl] at c
      rw [c_of (by omega)] at e19
      have e19 : M19 = wr N 137 i 0 := e19
      have ey : y = Int32.ofNat (i + 1) := ey.trans (Int32.ofNat_add i 1).symm
      rw [ey]
      refine IH (i + 1) M19 (by omega) (by rw [e19]; exact hk.wr rfl) (fun p hp => ?_)
      rw [e19]
      by_cases e : p = i
      · subst e; exact rd_we
      · rw [rd_wj e]; exact hz p (by omega)
theorem pc_reset : Pc (mX7_reset 135 N) (fun q => KS (fun k _ => k = 137) N q.1 ∧ ∀ p, p < 86 → rd q.1 137 p = r0 p) := by
  unfold mX7_reset
  exact reset_p 5000 0 N (by omega) KS.rf (fun p hp => by omega)
theorem copy_p {a b : Nat} (hab : a ≠ b) : ∀ (n i : Nat) (N : Mem), i ≤ 86 → KS (fun k _ => k = b) N0 N → (∀ p, p < i → rd N b p = rd N0 a p) → Pc (mX7_copy_l2 a b n (Int32.ofNat i) N) (fun q => KS (fun k _ => k = b) N0 q.1 ∧ ∀ p, p < 86 → rd q.1 b p = rd N0 a p) := by
  intro n
  induction n with
  | zero => intro i N _ _ _; exact Pc.n
  | succ n IH =>
    intro i N hi hk hz
    show Pc (mX7_copy_b2 a b (mX7_copy_l2 a b n) (Int32.ofNat i) N) _
    unfold mX7_copy_b2
    have ti : (Int32.ofNat i).toInt = (i : Int) := t_of (by omega)
    refine Pc.i (fun c => Pc.ok ⟨hk, fun p hp => ?_⟩) (fun c => Pc.k (fun _ => Pc.k (fun _ => Pc.b (fun M5 e5 => Pc.b (fun y ey => ?_)))))
    · have c := i_le.mp c
      rw [ti, show ((86 : Int32)).toInt = 86 from rfl] at c
      exact hz p (by omega)
    · have c := i_nle c
      rw [ti, show ((86 : Int32)).toInt = 86 from rfl] at c
      rw [c_of (by omega)] at e5
      have ey : y = Int32.ofNat (i + 1) := ey.trans (Int32.ofNat_add i 1).symm
      rw [ey]
      refine IH (i + 1) M5 (by omega) (by rw [e5]; exact hk.wr rfl) (fun p hp => ?_)
      rw [e5]
      by_cases e : p = i
      · subst e; rw [rd_we]; exact hk a p hab
      · rw [rd_wj e]; exact hz p (by omega)
theorem pc_copy {a b : Nat} (hab : a ≠ b) : Pc (mX7_copy a b N) (fun q => KS (fun k _ => k = b) N q.1 ∧ ∀ p, p < 86 → rd q.1 b p = rd N a p) := by
  unfold mX7_copy
  exact copy_p hab 5000 0 N (by omega) KS.rf (fun p hp => by omega)
/-- a row that is the same as far as it goes -/
theorem PR.cong {g : Nat → Int32} (h : PR k M f) (e : ∀ p, p < 86 → g p = f p) : PR k M g := by
  have h1 := h.lb; have h8 := h.n8; have hb := h.bb; have hs := h.sb
  refine ⟨?_, ?_, ?_, fun j hj => ?_, h.ub, fun b hb => ?_, ?_, ?_, ?_, fun j hj => ?_, ?_, ?_, ?_, fun j hj => ?_, fun j hj => ?_, ?_, ?_, ?_, fun j hj => ?_⟩
  · rw [e 1 (by omega)]; exact h.lc
  · rw [e 1 (by omega)]; exact h.lb
  · rw [e 1 (by omega), e 0 (by omega)]; exact h.nn
  · rw [e 1 (by omega)] at hj
    rw [e _ (by omega)]; exact h.leg j hj
  · rw [e 0 (by omega)] at hb
    rw [e _ (by omega)]; exact h.up b hb
  · rw [e 0 (by omega)]; exact h.uz
  · rw [e 36 (by omega), e 37 (by omega), e 38 (by omega)]; exact h.sh
  · rw [e 48 (by omega)]; exact h.fl
  · rw [e _ (by omega)]; exact h.tl j hj
  · rw [e 49 (by omega), e 50 (by omega), e 51 (by omega)]; exact h.co
  · rw [e 19 (by omega)]; exact h.nb
  · rw [e 19 (by omega)]; exact h.bb
  · rw [e 19 (by omega)] at hj
    rw [e _ (by omega), e _ (by omega)]; exact h.ba j hj
  · rw [e 19 (by omega)] at hj
    refine ⟨by rw [e _ (by omega)]; exact h.bv j hj, fun hj2 => ?_⟩
    rw [e 19 (by omega)] at hj2
    rw [e _ (by omega), e _ (by omega)]; exact h.bo j hj2
  · rw [e 52 (by omega)]; exact h.ma
  · rw [e 53 (by omega)]; exact h.ns
  · rw [e 53 (by omega)]; exact h.sb
  · rw [e 53 (by omega)] at hj
    rw [e _ (by omega), e _ (by omega), e _ (by omega), e _ (by omega)]; exact h.st j hj
/-! a token begins behind the one before -/
theorem mono_l : ∀ (n : Nat) (N : Mem), (rd N 135 10).toInt ≤ 600 → Pc (mX7_advance_l0 135 n N) (fun q => (rd N 135 12).toInt ≤ (rd q.1 135 11).toInt) := by
  intro n
  induction n with
  | zero => intro N _; exact Pc.n
  | succ n IH =>
    intro N hl
    show Pc (mX7_advance_b0 135 (mX7_advance_l0 135 n) N) _
    unfold mX7_advance_b0 mX7_advance_b26
    have sp : ∀ (r c : Int32), ¬ c = -1 → (((rd N 135 10).toInt ≤ (rd N 135 12).toInt ∧ r = -1) ∨ ((rd N 135 12).toInt < (rd N 135 10).toInt ∧ 0 ≤ (rd N 135 12).toInt ∧ r = rd N 140 (rd N 135 12).toNatClampNeg)) → r = c → ∀ M5, M5 = wr N 135 12 (rd N 135 12 + 1) → Pc (mX7_advance_l0 135 n M5) (fun q => (rd N 135 12).toInt ≤ (rd q.1 135 11).toInt) := by
      intro r c hc p e M5 e5
      rcases p with ⟨_, q⟩ | ⟨q, q0, _⟩
      · exact absurd (e.symm.trans q) hc
      · have t := i_inc q0 (by omega)
        refine Pc.mono (IH M5 (by rw [e5, rd_wj (by decide)]; exact hl)) (fun q hq => ?_)
        rw [e5, rd_we, t] at hq; omega
    refine Pc.c pc_byteAt (fun r p => Pc.i (fun c => Pc.b (fun M5 e5 => sp r 32 (by decide) p c M5 e5)) (fun _ => Pc.c pc_byteAt (fun r2 p2 => Pc.i (fun c => Pc.b (fun M5 e5 => sp r2 10 (by decide) p2 c M5 e5)) (fun _ => Pc.b (fun M11 e11 => ?_)))))
    have fin : ∀ q : Mem × Int32, KS S11 M11 q.1 → (rd N 135 12).toInt ≤ (rd q.1 135 11).toInt := fun q hq => by
      rw [hq 135 11 (by decide), e11, rd_we]; omega
    refine Pc.c (Pc.self _) (fun r14 _ => Pc.i (fun _ => Pc.b (fun _ e => Pc.ok (fin _ (by rw [e]; exact KS.rf.wr (by decide))))) (fun _ => Pc.c (Pc.self _) (fun _ _ => Pc.i (fun _ => Pc.c (Pc.self _) (fun _ _ => Pc.i (fun _ => Pc.b (fun M25 e25 => Pc.i (fun _ => Pc.b (fun _ e => Pc.ok (fin _ (by rw [e, e25]; exact (KS.rf.wr (by decide)).wr (by decide))))) (fun _ => Pc.b (fun _ e => Pc.ok (fin _ (by rw [e, e25]; exact (KS.rf.wr (by decide)).wr (by decide))))))) (fun _ => Pc.b (fun M32 e32 => Pc.mono (g_l141 (M0 := M11) 5000 M32 (by rw [e32]; exact KS.rf.wr (by decide))).pc fin)))) (fun _ => Pc.mono (g_l76 (M0 := M11) 5000 M11 KS.rf).pc fin))))
theorem adv_mono (hl : (rd N 135 10).toInt ≤ 600) : Pc (mX7_advance 135 N) (fun q => (rd N 135 12).toInt ≤ (rd q.1 135 11).toInt) := by
  unfold mX7_advance
  exact mono_l 5000 N hl
end LDT
end
/-! part 60n.load3 -/
section
/-! load: what it gives, by both -/
section LDU
variable {M N M0 N0 : Mem} {f : Nat → Int32}
/-- what a read text gives -/
def LRel (a : Mem × Int32) (b : Mem × Int32) : Prop := (rd a.1 2 0 = rd b.1 135 8 ∧ rd a.1 2 1 = rd b.1 135 9) ∧ ((a.2 = 0 ∧ b.2 = -3) ∨ (¬ a.2 = 0 ∧ PR 13 a.1 (row 136 b.1) ∧ b.2 = rd b.1 136 0 ∧ rd b.1 135 4 = 0))
theorem b102_err : Pc (mX7_load_b102 135 0 N) (fun q => rd q.1 135 8 = rd N 135 15 ∧ rd q.1 135 9 = rd N 135 16 ∧ q.2 = -3) := by
  unfold mX7_load_b102
  refine Pc.b (fun M25 e25 => Pc.b (fun M27 e27 => Pc.i (fun _ => Pc.ok ⟨?_, ?_, rfl⟩) (fun q => absurd rfl q)))
  · show rd M27 135 8 = _
    rw [e27, rd_wj (by decide), e25, rd_we]
  · show rd M27 135 9 = _
    rw [e27, rd_we, e25, rd_wj (by decide)]
theorem b102_ok : Pc (mX7_load_b102 135 1 N) (fun q => rd q.1 135 8 = rd N 135 15 ∧ rd q.1 135 9 = rd N 135 16 ∧ (∀ p, p < 86 → rd q.1 136 p = rd N 137 p) ∧ q.2 = rd q.1 136 0 ∧ rd q.1 135 4 = 0) := by
  unfold mX7_load_b102
  refine Pc.b (fun M25 e25 => Pc.b (fun M27 e27 => Pc.i (fun q => absurd q (by decide)) (fun _ => Pc.m (pc_copy (a := 135 + 2) (b := 135 + 1) (by decide)) (fun M32 _ p => Pc.b (fun M33 e33 => Pc.k (fun _ => Pc.ok ?_))))))
  have kp : KS (fun k _ => k = 136) M27 M32 := p.1
  have cp : ∀ p, p < 86 → rd M32 136 p = rd M27 137 p := p.2
  refine ⟨?_, ?_, fun p hp => ?_, rfl, ?_⟩
  · show rd M33 135 8 = _
    rw [e33, rd_wj (by decide), kp 135 8 (by decide), e27, rd_wj (by decide), e25, rd_we]
  · show rd M33 135 9 = _
    rw [e33, rd_wj (by decide), kp 135 9 (by decide), e27, rd_we, e25, rd_wj (by decide)]
  · show rd M33 136 p = _
    rw [e33, rd_wk (by decide), cp p hp, e27, rd_wk (by decide), e25, rd_wk (by decide)]
  · show rd M33 135 4 = 0
    rw [e33, rd_we]
theorem rt_b84 : Pc (mX4_readText_b84 2 1 13 M) (fun q => q.1 = M ∧ (rd M 2 0 = 0 → q.2 = 1) ∧ (¬ rd M 2 0 = 0 → q.2 = 0)) := by
  unfold mX4_readText_b84
  exact Pc.i (fun c => Pc.ok ⟨rfl, fun _ => rfl, fun q => absurd c q⟩) (fun c => Pc.ok ⟨rfl, fun q => absurd q c, fun _ => rfl⟩)
/-- the class's loop ends behind an error -/
theorem rt_err : ∀ (n : Nat) (x4 : Int32) (M : Mem), ¬ rd M 2 0 = 0 → Pc (mX4_readText_l47 2 1 13 n x4 M) (fun q => q.1 = M ∧ q.2 = 0) := by
  intro n x4 M h
  cases n with
  | zero => exact Pc.n
  | succ n =>
    show Pc (mX4_readText_b47 2 1 13 (mX4_readText_l47 2 1 13 n) x4 M) _
    unfold mX4_readText_b47
    have e : Pc (mX4_readText_b84 2 1 13 M) (fun q => q.1 = M ∧ q.2 = 0) := Pc.mono rt_b84 (fun q hq => ⟨hq.1, hq.2.2 h⟩)
    exact Pc.i (fun _ => e) (fun _ => Pc.i (fun _ => e) (fun _ => Pc.i (fun q => absurd q h) (fun _ => e)))
theorem ld_err : ∀ (m : Nat) (N : Mem), Pc (mX7_load_l68 135 m 0 N) (fun q => rd q.1 135 8 = rd N 135 15 ∧ rd q.1 135 9 = rd N 135 16 ∧ q.2 = -3) := by
  intro m N
  cases m with
  | zero => exact Pc.n
  | succ m =>
    show Pc (mX7_load_b68 135 (mX7_load_l68 135 m) 0 N) _
    unfold mX7_load_b68
    exact Pc.i (fun _ => b102_err) (fun q => absurd rfl q)
theorem kk_cl {N1 : Mem} {r : Int32} {b : Mem × Int32} (hr : ¬ r = 0) (h : mX7_closed 135 N1 = some b) : (rd N1 135 13 = 4 ∧ KK N1 r = some (N1, 1) ∧ mX7_advance 135 N1 = some b) ∨ (KK N1 r = some b ∧ b.2 = 0) := by
  unfold mX7_closed at h
  unfold KK closT
  by_cases c : rd N1 135 13 = 4
  · left
    have h := ite_t c h
    obtain ⟨M4, r3, e1, e2⟩ := cal_s h
    obtain ⟨_, e2⟩ := chk_s e2
    cases e2
    refine ⟨c, ?_, e1⟩
    unfold ite2
    rw [if_neg hr, if_pos c]
  · right
    have h := ite_f c h
    have e0 : b.2 = 0 := by
      obtain ⟨M8, r7, e1, e2⟩ := cal_s h
      obtain ⟨_, e2⟩ := chk_s e2
      cases e2
      exact (pc_fail _ e1).1
    refine ⟨?_, e0⟩
    unfold ite2
    rw [if_neg hr, if_neg c]
    exact h
theorem ld_l : ∀ (n m : Nat) (x4 : Int32) (M N : Mem), TT M N → BX (row 137 N) M N → PI N → 0 ≤ x4.toInt → x4.toInt ≤ (rd N 135 11).toInt → R2 (mX4_readText_l47 2 1 13 n x4 M) (mX7_load_l68 135 m 1 N) LRel := by
  intro n
  induction n with
  | zero => intro m x4 M N _ _ _ _ _; exact R2.nl
  | succ n IH =>
    intro m x4 M N hT hB hP h0 hx
    cases m with
    | zero => exact R2.nr
    | succ m =>
      show R2 (mX4_readText_b47 2 1 13 (mX4_readText_l47 2 1 13 n) x4 M) (mX7_load_b68 135 (mX7_load_l68 135 m) 1 N) _
      have good : R2 (mX4_readText_b84 2 1 13 M) (mX7_load_b102 135 1 N) LRel := by
        intro a b ha hb
        have p := rt_b84 _ ha
        have q := b102_ok _ hb
        have e15 := hB.n0
        refine ⟨⟨?_, ?_⟩, Or.inr ⟨?_, ?_, q.2.2.2.1, q.2.2.2.2⟩⟩
        · rw [p.1, q.1, hB.k0, e15]
        · rw [p.1, q.2.1, hB.pp]
        · rw [p.2.1 hB.k0]; decide
        · rw [p.1]; exact hB.pr.cong (fun p hp => q.2.2.1 p hp)
      unfold mX4_readText_b47 mX7_load_b68 mX7_load_b97 mX7_load_b98
      rw [hT.tk]
      refine R2.ir (fun q => absurd q (by decide)) (fun _ => ?_)
      refine R2.il (fun c6 => ?_) (fun _ => R2.il (fun ct => R2.ir (fun _ => good) (fun q => absurd ct q)) (fun ct => R2.ir (fun q => absurd q ct) (fun _ => R2.il (fun _ => ?_) (fun q => absurd hB.k0 q))))
      · have c6 := i_le.mp c6
        rw [show ((600 : Int32)).toInt = 600 from rfl] at c6
        refine R2.ir (fun _ => good) (fun q => ?_)
        have := hT.en q; have := hT.rt.top
        exfalso; omega
      · intro a b ha hb
        obtain ⟨M25, u1, a1, a2⟩ := cal_s ha
        obtain ⟨M28, u2, a3, a4⟩ := cal_s a2
        obtain ⟨x', ex', a5⟩ := bnd_s a4
        obtain ⟨N39, r38, b1, b2⟩ := cal_s hb
        have hS := (sX7_statement hP).toPc _ b1
        have st := st_all hT hB
        have fn : KS SC M25 M28 := fr_next _ a3
        by_cases c38 : r38 = 0
        · have b2 := ite_t c38 b2
          subst c38
          have hk : cal (mX7_statement 135 N) KK = some (N39, 0) := by rw [b1]; rfl
          rcases st _ _ a1 hk with ⟨q, _⟩ | ⟨_, q1, q2, q3⟩
          · exact absurd rfl q
          · have q1 : ¬ rd M25 2 0 = 0 := q1
            have q2 : rd M25 2 0 = rd N39 135 15 := q2
            have q3 : rd M25 2 1 = rd N39 135 16 := q3
            have z0 : rd M28 2 0 = rd M25 2 0 := fn 2 0 (by decide)
            have z1 : rd M28 2 1 = rd M25 2 1 := fn 2 1 (by decide)
            have p := rt_err n x' M28 (by rw [z0]; exact q1) _ a5
            have q := ld_err m N39 _ b2
            refine ⟨⟨?_, ?_⟩, Or.inl ⟨p.2, q.2.2⟩⟩
            · rw [p.1, z0, q.1, q2]
            · rw [p.1, z1, q.2.1, q3]
        · have b2 := ite_f c38 b2
          obtain ⟨N43, r42, b3, b4⟩ := cal_s b2
          have hC := (sX7_closed hS.1).toPc _ b3
          rcases kk_cl c38 b3 with ⟨c4, k1, k2⟩ | ⟨k1, k2⟩
          · have hk : cal (mX7_statement 135 N) KK = some (N39, 1) := by rw [b1]; exact k1
            rcases st _ _ a1 hk with ⟨_, hB2⟩ | ⟨q, _⟩
            · have hB2 : BX (row 137 N39) M25 N39 := hB2
              have er : r42 = 1 := o_adv _ k2
              subst er
              have b4 := ite_f (by decide) b4
              have tn := tk_next hB2.nx.rt hB2.nx.nx hB2.nx.b0 hB2.nx.b2 _ _ a3 k2
              have tn : TT M28 N43 := tn
              have fa : KS SN N39 N43 := fr_adv _ k2
              have mo : (rd N39 135 12).toInt ≤ (rd N43 135 11).toInt := adv_mono hB2.nx.rt.top _ k2
              have hB3 : BX (row 137 N43) M28 N43 := by
                rw [row_ks fa (fun j z => absurd z.1 (by decide))]
                refine ⟨tn.n, hB2.pr.ks fn (fun c j h1 h2 q => ?_), ?_, ?_, ?_⟩
                · have q1 := q.1; omega
                · rw [fn 2 0 (by decide)]; exact hB2.k0
                · rw [fa 135 15 (by decide)]; exact hB2.n0
                · rw [fn 2 1 (by decide), fa 135 16 (by decide)]; exact hB2.pp
              have inc : nx N < nx N39 := hS.2.2.2.2 c38
              have inc : (rd N 135 12).toInt < (rd N39 135 12).toInt := inc
              have hb1 := hT.b1; have hb2 := tn.b1; have hb3 := tn.b2; have hb4 := tn.rt.top
              have n1 : ((1 : Int32)).toInt = 1 := rfl
              have tx : x'.toInt = x4.toInt + 1 := by rw [ex', i_add (by omega) (by omega), n1]
              exact IH m x' M28 N43 tn hB3 hC.1 (by omega) (by omega) _ _ a5 b4
            · exact absurd (show (1 : Int32) = 0 from q) (by decide)
          · have hk : cal (mX7_statement 135 N) KK = some (N43, r42) := by rw [b1]; exact k1
            have k2 : r42 = 0 := k2
            subst k2
            have b4 := ite_t rfl b4
            rcases st _ _ a1 hk with ⟨q, _⟩ | ⟨_, q1, q2, q3⟩
            · exact absurd rfl q
            · have q1 : ¬ rd M25 2 0 = 0 := q1
              have q2 : rd M25 2 0 = rd N43 135 15 := q2
              have q3 : rd M25 2 1 = rd N43 135 16 := q3
              have z0 : rd M28 2 0 = rd M25 2 0 := fn 2 0 (by decide)
              have z1 : rd M28 2 1 = rd M25 2 1 := fn 2 1 (by decide)
              have p := rt_err n x' M28 (by rw [z0]; exact q1) _ a5
              have q := ld_err m N43 _ b4
              refine ⟨⟨?_, ?_⟩, Or.inl ⟨p.2, q.2.2⟩⟩
              · rw [p.1, z0, q.1, q2]
              · rw [p.1, z1, q.2.1, q3]
/-- the bytes that were fed -/
def BB (M N : Mem) : Prop := ∀ i : Nat, (i : Int) < (rd N 135 7).toInt → BR (rd M 1 i) (rd N 140 i)
/-- load: both throw, or both read -/
def LR (M N : Mem) (a : Mem × (Int32 ⊕ Nat)) (b : Mem × Int32) : Prop :=
  (a.1 = M ∧ a.2 = Sum.inr 0 ∧ rd b.1 135 5 = 1 ∧ KS (fun k j => k = 135 ∧ j = 5) N b.1) ∨
  (rd b.1 135 5 = 0 ∧ a.2 = Sum.inl b.2 ∧ (rd a.1 2 0 = rd b.1 135 8 ∧ rd a.1 2 1 = rd b.1 135 9) ∧ (b.2 = -3 ∨ (¬ b.2 = -3 ∧ PR 5 a.1 (row 136 b.1) ∧ rd a.1 21 2 = 0 ∧ rd b.1 135 4 = 0)))
theorem th_l : ∀ (m : Nat) (x : Int32) (N : Mem), PI N → Pc (mX7_load_l68 135 m x N) (fun q => rd q.1 135 5 = rd N 135 5) := by
  intro m
  induction m with
  | zero => intro x N _; exact Pc.n
  | succ m IH =>
    intro x N h
    show Pc (mX7_load_b68 135 (mX7_load_l68 135 m) x N) _
    have fin : Pc (mX7_load_b102 135 x N) (fun q => rd q.1 135 5 = rd N 135 5) := by
      unfold mX7_load_b102
      refine Pc.b (fun M25 e25 => Pc.b (fun M27 e27 => Pc.i (fun _ => Pc.ok ?_) (fun _ => Pc.m (pc_copy (a := 135 + 2) (b := 135 + 1) (by decide)) (fun M32 _ p => Pc.b (fun M33 e33 => Pc.k (fun _ => Pc.ok ?_))))))
      · show rd M27 135 5 = _
        rw [e27, rd_wj (by decide), e25, rd_wj (by decide)]
      · have kp : KS (fun k _ => k = 136) M27 M32 := p.1
        show rd M33 135 5 = _
        rw [e33, rd_wj (by decide), kp 135 5 (by decide), e27, rd_wj (by decide), e25, rd_wj (by decide)]
    unfold mX7_load_b68 mX7_load_b97 mX7_load_b98
    refine Pc.i (fun _ => fin) (fun _ => Pc.i (fun _ => fin) (fun _ => Pc.m (sX7_statement h).toPc (fun M39 r38 p => ?_)))
    have k39 : rd M39 135 5 = rd N 135 5 := p.2.1 135 5 (by decide) (by decide)
    refine Pc.i (fun _ => Pc.mono (IH 0 M39 p.1) (fun q hq => hq.trans k39)) (fun _ => Pc.m (sX7_closed p.1).toPc (fun M43 r42 p43 => ?_))
    have k43 : rd M43 135 5 = rd M39 135 5 := p43.2.1 135 5 (by decide) (by decide)
    exact Pc.i (fun _ => Pc.mono (IH 0 M43 p43.1) (fun q hq => hq.trans (k43.trans k39))) (fun _ => Pc.mono (IH 1 M43 p43.1) (fun q hq => hq.trans (k43.trans k39)))
/-- a text, read by both -/
theorem text_R {x : Int32} (hB : BB M N) (hM : MI N) (h7 : rd N0 135 7 = rd N 135 7) (hx : 0 ≤ x.toInt ∧ x.toInt ≤ (rd N 135 7).toInt) (hk : ∀ j, rd M0 1 j = rd M 1 j) : R2 (mX4_readText 2 1 13 x M0) (mX7_load_b20 135 x 0 N) (fun a b => LRel a b ∧ rd b.1 135 5 = 0) := by
  have b7 : (0 : Int) ≤ (rd N 135 7).toInt ∧ (rd N 135 7).toInt ≤ 600 := hM.1.std 135 7
  unfold mX4_readText mX4_readText_b18 mX7_load_b20
  refine R2.kl (fun _ => R2.bl (fun M1 e1 => R2.il (fun c => ?_) (fun _ => ?_)))
  · have c := i_lt.mp c
    rw [show ((600 : Int32)).toInt = 600 from rfl] at c
    exfalso; omega
  · refine R2.br (fun M5 e5 => R2.ir (fun _ => ?_) (fun c => ?_))
    rotate_left
    · rw [e5, rd_we] at c
      exact absurd (by decide) c
    have h5 : MI M5 := by rw [e5]; exact hM.th.1
    refine R2.br (fun M8 e8 => R2.br (fun M10 e10 => R2.br (fun M12 e12 => R2.br (fun M14 e14 => R2.br (fun M16 e16 => ?_)))))
    have h8 : MI M8 := by rw [e8]; exact h5.set (by decide) (h5.1.put (b := (0, 600)) rfl ⟨hx.1, by show _ ≤ (600 : Int); omega⟩)
    have h10 : MI M10 := by rw [e10]; exact h8.set (by decide) (h8.1.put (b := (0, 600)) rfl (by decide))
    have h12 : MI M12 := by rw [e12]; exact h10.set (by decide) (h10.1.put (b := (0, 600)) rfl (by decide))
    have h14 : MI M14 := by rw [e14]; exact h12.set (by decide) (h12.1.put (b := bT) rfl (i_rng _))
    have h16 : MI M16 := by rw [e16]; exact h14.set (by decide) (h14.1.put (b := bT) rfl (i_rng _))
    have q16 : ∀ k j, ¬ (k = 135 ∧ (j = 5 ∨ j = 7 ∨ j = 10 ∨ j = 12 ∨ j = 15 ∨ j = 16)) → rd M16 k j = rd N k j := fun k j q => by
      rw [e16, rd_eq, if_neg (by omega), e14, rd_eq, if_neg (by omega), e12, rd_eq, if_neg (by omega), e10, rd_eq, if_neg (by omega), e8, rd_eq, if_neg (by omega), e5, rd_eq, if_neg (by omega)]
    have t5 : rd M16 135 5 = 0 := by rw [e16, rd_wj (by decide), e14, rd_wj (by decide), e12, rd_wj (by decide), e10, rd_wj (by decide), e8, rd_wj (by decide), e5, rd_we]
    have t10 : rd M16 135 10 = x := by rw [e16, rd_wj (by decide), e14, rd_wj (by decide), e12, rd_wj (by decide), e10, rd_wj (by decide), e8, rd_we]
    have t12 : rd M16 135 12 = 0 := by rw [e16, rd_wj (by decide), e14, rd_wj (by decide), e12, rd_we]
    have t15 : rd M16 135 15 = 0 := by rw [e16, rd_wj (by decide), e14, rd_we]
    have t16 : rd M16 135 16 = -1 := by rw [e16, rd_we]
    refine R2.bl (fun C1 c1 => R2.bl (fun C2 c2 => R2.bl (fun C3 c3 => R2.bl (fun C4 c4 => R2.ml pc_clear (fun C5 _ pC => ?_)))))
    refine R2.mr (Pc.and pc_reset (sX7_reset h16.1).toPc) (fun N20 _ pN => ?_)
    have kN : KS (fun k _ => k = 137) M16 N20 := pN.1.1
    have rN : ∀ p, p < 86 → rd N20 137 p = r0 p := pN.1.2
    have hP : PI N20 := pN.2.1
    have kC : KS A13 C4 C5 := pC.2
    have v3 : rd C4 2 3 = x := by rw [c4, rd_wj (by decide), c3, rd_wj (by decide), c2, rd_wj (by decide), c1, rd_we]
    have v5 : rd C4 2 5 = 0 := by rw [c4, rd_wj (by decide), c3, rd_wj (by decide), c2, rd_we]
    have v0 : rd C4 2 0 = 0 := by rw [c4, rd_wj (by decide), c3, rd_we]
    have v1 : rd C4 2 1 = -1 := by rw [c4, rd_we]
    have vb : ∀ j, rd C4 1 j = rd M 1 j := fun j => by rw [c4, rd_wk (by decide), c3, rd_wk (by decide), c2, rd_wk (by decide), c1, rd_wk (by decide), e1, rd_wk (by decide)]; exact hk j
    have hBX : BX (row 137 N20) C5 N20 := by
      refine ⟨⟨⟨?_, ?_, fun i hi => ?_⟩, ?_, ?_, ?_⟩, pC.1.cong rN, ?_, ?_, ?_⟩
      · rw [kC 2 3 (by decide), v3, kN 135 10 (by decide), t10]
      · rw [kN 135 10 (by decide), t10]; omega
      · rw [kN 135 10 (by decide), t10] at hi
        rw [kC 1 i (by show ¬ (13 ≤ 1 ∧ 1 ≤ 20); omega), vb, kN 140 i (by show ¬ (140 : Nat) = 137; omega), q16 140 i (by omega)]
        exact hB i (by omega)
      · rw [kC 2 5 (by decide), v5, kN 135 12 (by decide), t12]
      · rw [kN 135 12 (by decide), t12]; decide
      · rw [kN 135 12 (by decide), t12, kN 135 10 (by decide), t10]; exact hx.1
      · rw [kC 2 0 (by decide), v0]
      · rw [kN 135 15 (by decide), t15]
      · rw [kC 2 1 (by decide), v1, kN 135 16 (by decide), t16]
    intro a b ha hb
    obtain ⟨C6, u, a1, a2⟩ := cal_s ha
    obtain ⟨N23, r22, b1, b2⟩ := cal_s hb
    have pA := (sX7_advance hP.1).toPc _ b1
    have h23 : PI N23 := hP.ka pA.1.1 pA.1.2.1
    have fn : KS SC C5 C6 := fr_next _ a1
    have fa : KS SN N20 N23 := fr_adv _ b1
    have tn : TT C6 N23 := tk_next hBX.nx.rt hBX.nx.nx hBX.nx.b0 hBX.nx.b2 _ _ a1 b1
    have hB3 : BX (row 137 N23) C6 N23 := by
      rw [row_ks fa (fun j z => absurd z.1 (by decide))]
      refine ⟨tn.n, hBX.pr.ks fn (fun c j h1 h2 q => ?_), ?_, ?_, ?_⟩
      · have q1 := q.1; omega
      · rw [fn 2 0 (by decide)]; exact hBX.k0
      · rw [fa 135 15 (by decide)]; exact hBX.n0
      · rw [fn 2 1 (by decide), fa 135 16 (by decide)]; exact hBX.pp
    have th := th_l 5000 1 N23 h23 _ b2
    refine ⟨ld_l 5000 5000 0 C6 N23 tn hB3 h23 (by decide) (by rw [show ((0 : Int32)).toInt = 0 from rfl]; exact tn.b0) _ _ a2 b2, ?_⟩
    rw [th, fa 135 5 (by decide), kN 135 5 (by decide), t5]
theorem load_R {x : Int32} (hB : BB M N) (hM : MI N) (h7 : rd M 0 1 = rd N 135 7) : R2 (mX6_load 0 x M) (mX7_load 135 x N) (LR M N) := by
  have b7 : (0 : Int) ≤ (rd N 135 7).toInt ∧ (rd N 135 7).toInt ≤ 600 := hM.1.std 135 7
  have no : ¬ (0 ≤ x.toInt ∧ x.toInt ≤ (rd N 135 7).toInt) → R2 (mX6_load_b12 0 M) (mX7_load_b20 135 x 1 N) (LR M N) := by
    intro _
    unfold mX6_load_b12 mX7_load_b20
    refine R2.br (fun M5 e5 => R2.ir (fun c => ?_) (fun _ => R2.ok (Or.inl ⟨rfl, rfl, ?_, ?_⟩)))
    · rw [e5, rd_we] at c
      exact absurd c (by decide)
    · show rd M5 135 5 = 1
      rw [e5, rd_we]
    · show KS _ N M5
      rw [e5]; exact KS.rf.wr ⟨rfl, rfl⟩
  unfold mX6_load mX7_load
  refine R2.cr (pc_btw (Int32.toInt_toInt64 _) (b := 0) (by decide) (Int32.toInt_toInt64 _)) (fun r2 p2 => ?_)
  rcases p2 with ⟨rfl, p2⟩ | ⟨rfl, p2⟩
  · refine R2.ir (fun q => absurd q (by decide)) (fun _ => ?_)
    refine R2.il (fun c => ?_) (fun _ => R2.il (fun _ => R2.bl (fun M3 e3 => ?_)) (fun c => ?_))
    · have c := i_lt.mp c
      rw [show ((0 : Int32)).toInt = 0 from rfl] at c
      exfalso; omega
    · intro a b ha hb
      obtain ⟨M7, r6, a1, a2⟩ := cal_s ha
      have hT := text_R (N0 := N) (M0 := M3) hB hM rfl p2 (fun j => by rw [e3]; exact rd_wk (by decide)) _ _ a1 hb
      obtain ⟨⟨⟨er1, er2⟩, hr⟩, h5⟩ := hT
      have er1 : rd M7 2 0 = rd b.1 135 8 := er1
      have er2 : rd M7 2 1 = rd b.1 135 9 := er2
      by_cases c6 : r6 = 0
      · have a2 := ite_t c6 a2
        cases a2
        rcases hr with ⟨_, q⟩ | ⟨q, _⟩
        · exact Or.inr ⟨h5, by rw [q], ⟨er1, er2⟩, Or.inl q⟩
        · exact absurd c6 q
      · have a2 := ite_f c6 a2
        rcases hr with ⟨q, _⟩ | ⟨_, hp, hb2, h4⟩
        · exact absurd q c6
        obtain ⟨M11, u1, a3, a4⟩ := cal_s a2
        obtain ⟨M14, u2, a5, a6⟩ := cal_s a4
        obtain ⟨r16, a7, a8⟩ := cap_s a6
        cases a8
        have hp : PR 13 M7 (row 136 b.1) := hp
        obtain ⟨q0, q1, q2, q3, q4⟩ := pc_copyFrom (k := 5) (k' := 13) (by omega) _ a3
        have hp5 : PR 5 M11 (row 136 b.1) := hp.copy q0 q1 q2 q3
        have e14 : M14 = wr M11 21 2 0 := by
          have : some (M14, u2) = some (wr M11 21 2 0, ()) := a5.symm
          cases this; rfl
        have hp6 : PR 5 M14 (row 136 b.1) := hp5.mem (fun c j h1 h2 => by rw [e14]; exact rd_wk (by omega))
        have ebc : r16 = b.2 := by
          rw [hb2]
          have nn := hp6.nn
          have lb := hp6.lb
          have n1 : ((1 : Int32)).toInt = 1 := rfl
          rcases pc_bc _ a7 with ⟨c, e⟩ | ⟨c, e⟩
          · rw [hp6.lc] at c
            have : (row 136 b.1 1).toInt = 0 := by omega
            rw [if_pos this] at nn
            rw [e, i_eq]
            exact nn.symm
          · rw [hp6.lc] at c
            rw [if_neg (by omega)] at nn
            rw [e, i_eq, hp6.lc, i_sub (by omega) (by omega), n1]
            exact nn.symm
        have n3 : ¬ b.2 = -3 := fun q => by
          have := hp6.n8.1
          rw [hb2] at q
          have q := congrArg Int32.toInt q
          have q : (row 136 b.1 0).toInt = -3 := q
          omega
        have z : ∀ j, rd M14 2 j = rd M7 2 j := fun j => by rw [e14, rd_wk (by decide)]; exact q4 2 j (by show ¬ (5 ≤ 2 ∧ 2 < 5 + 8); omega)
        refine Or.inr ⟨h5, by rw [ebc], ⟨?_, ?_⟩, Or.inr ⟨n3, hp6, ?_, h4⟩⟩
        · show rd M14 2 0 = _
          rw [z]; exact er1
        · show rd M14 2 1 = _
          rw [z]; exact er2
        · show rd M14 21 2 = 0
          rw [e14, rd_we]
    · have c := i_nle c
      rw [h7] at c
      exfalso; omega
  · refine R2.ir (fun _ => ?_) (fun q => absurd rfl q)
    refine R2.il (fun _ => no p2) (fun c => R2.il (fun c2 => ?_) (fun _ => no p2))
    have c := i_nlt c
    rw [show ((0 : Int32)).toInt = 0 from rfl] at c
    have c2 := i_le.mp c2
    rw [h7] at c2
    exfalso; omega
end LDU
end
/-! part 60o.feed -/
section
/-! the bytes that are fed -/
section FD
variable {M N : Mem}
theorem bv_low (b : BitVec 32) (s : Nat) (hs : s ≤ 24) : (b.sshiftRight s).setWidth 8 = (b >>> s).setWidth 8 := by
  apply BitVec.eq_of_getLsbD_eq
  intro i hi
  rw [BitVec.getLsbD_setWidth, BitVec.getLsbD_setWidth, BitVec.getLsbD_sshiftRight, BitVec.getLsbD_ushiftRight]
  have h1 : decide (i < 8) = true := decide_eq_true hi
  have h2 : ¬ (32 ≤ i) := by omega
  have h3 : s + i < 32 := by omega
  simp [h1, h2, h3]
theorem br_of {x y : Int32} {c : BitVec 8} (hx : x.toInt = c.toInt) (hy : y.toInt = (c.toNat : Int)) : BR x y := by
  have h := BitVec.toInt_eq_toNat_cond c
  have hc := c.isLt
  by_cases q : 2 * c.toNat < 2 ^ 8
  · rw [if_pos q] at h
    exact Or.inl ⟨i_eq.mpr (by omega), by omega, by omega⟩
  · rw [if_neg q] at h
    exact Or.inr ⟨by omega, by omega⟩
theorem cl_byte {z : Int32} {d : BitVec 32} (h : z.toBitVec = d) : (vp_nar .byte (z.toInt8.toInt32)).toInt = (d.setWidth 8).toInt := by
  have e : vp_nar .byte (z.toInt8.toInt32) = (z.toInt8.toInt32).toInt8.toInt32 := rfl
  rw [e, Int8.toInt8_toInt32, Int8.toInt_toInt32]
  have e2 : z.toInt8.toBitVec = z.toBitVec.setWidth 8 := (show z.toInt8.toBitVec = z.toBitVec.signExtend 8 from rfl).trans (BitVec.signExtend_eq_setWidth_of_le _ (by decide))
  rw [← h, ← e2]
  rfl
theorem rf_byte {z : Int32} {d : BitVec 32} (h : z.toBitVec = d &&& 255#32) : z.toInt = ((d.setWidth 8).toNat : Int) := by
  have e : (d &&& 255#32).toNat = d.toNat % 256 := by
    rw [BitVec.toNat_and]
    show d.toNat &&& 255 = _
    exact Nat.and_two_pow_sub_one_eq_mod d.toNat 8
  have h1 : z.toBitVec.toNat = d.toNat % 256 := by rw [h, e]
  rw [i_lo (by rw [h1]; omega), h1, BitVec.toNat_setWidth]
theorem br_byte {x s : Int32} (hs : s = 24 ∨ s = 16 ∨ s = 8 ∨ s = 0) : BR (vp_nar .byte ((x >>> (s &&& 31)).toInt8.toInt32)) (((x).toUInt32 >>> ((s).toUInt32 &&& Int32.toUInt32 31)).toInt32 &&& (255 : Int32)) := by
  rcases hs with rfl | rfl | rfl | rfl
  · have h1 : (x >>> ((24 : Int32) &&& 31)).toBitVec = x.toBitVec.sshiftRight 24 := rfl
    have h2 : ((((x).toUInt32 >>> ((24 : Int32).toUInt32 &&& Int32.toUInt32 31)).toInt32 &&& (255 : Int32))).toBitVec = (x.toBitVec >>> 24) &&& 255#32 := rfl
    exact br_of ((cl_byte h1).trans (by rw [bv_low _ 24 (by decide)])) (rf_byte h2)
  · have h1 : (x >>> ((16 : Int32) &&& 31)).toBitVec = x.toBitVec.sshiftRight 16 := rfl
    have h2 : ((((x).toUInt32 >>> ((16 : Int32).toUInt32 &&& Int32.toUInt32 31)).toInt32 &&& (255 : Int32))).toBitVec = (x.toBitVec >>> 16) &&& 255#32 := rfl
    exact br_of ((cl_byte h1).trans (by rw [bv_low _ 16 (by decide)])) (rf_byte h2)
  · have h1 : (x >>> ((8 : Int32) &&& 31)).toBitVec = x.toBitVec.sshiftRight 8 := rfl
    have h2 : ((((x).toUInt32 >>> ((8 : Int32).toUInt32 &&& Int32.toUInt32 31)).toInt32 &&& (255 : Int32))).toBitVec = (x.toBitVec >>> 8) &&& 255#32 := rfl
    exact br_of ((cl_byte h1).trans (by rw [bv_low _ 8 (by decide)])) (rf_byte h2)
  · have h1 : (x >>> ((0 : Int32) &&& 31)).toBitVec = x.toBitVec.sshiftRight 0 := rfl
    have h2 : ((((x).toUInt32 >>> ((0 : Int32).toUInt32 &&& Int32.toUInt32 31)).toInt32 &&& (255 : Int32))).toBitVec = (x.toBitVec >>> 0) &&& 255#32 := rfl
    exact br_of ((cl_byte h1).trans (by rw [bv_low _ 0 (by decide)])) (rf_byte h2)
/-- the buffers are alike -/
def BF (M N : Mem)  : Prop := (BB M N) ∧ (rd M 0 1 = rd N 135 7) ∧ (0 ≤ (rd N 135 7).toInt)
theorem BF.bb {M N : Mem}  (h : BF M N) : BB M N := h.1
theorem BF.bn {M N : Mem}  (h : BF M N) : rd M 0 1 = rd N 135 7 := h.2.1
theorem BF.b0 {M N : Mem}  (h : BF M N) : 0 ≤ (rd N 135 7).toInt := h.2.2
abbrev SFc (k j : Nat) : Prop := k = 1 ∨ (k = 0 ∧ j = 1)
abbrev SFr (k j : Nat) : Prop := k = 140 ∨ (k = 135 ∧ (j = 5 ∨ j = 7))
theorem app_l {x1 : Int32} : ∀ (n m : Nat) (x2 : Int32) (M N : Mem), BF M N → (x2 = 24 ∨ x2 = 16 ∨ x2 = 8 ∨ x2 = 0 ∨ x2 = -8) → R2 (mX6_append_l3 0 n x1 x2 M) (mX7_append_l3 135 m x1 x2 N) (fun a b => BF a.1 b.1 ∧ KS SFc M a.1 ∧ KS SFr N b.1) := by
  intro n
  induction n with
  | zero => intro m x2 M N _ _; exact R2.nl
  | succ n IH =>
    intro m x2 M N h hx
    cases m with
    | zero => exact R2.nr
    | succ m =>
      show R2 (mX6_append_b3 0 (mX6_append_l3 0 n) x1 x2 M) (mX7_append_b3 135 (mX7_append_l3 135 m) x1 x2 N) _
      unfold mX6_append_b3 mX7_append_b3 mX6_append_b40
      rw [h.bn]
      refine R2.il (fun c => R2.ir (fun _ => R2.ok ⟨h, KS.rf, KS.rf⟩) (fun q => absurd c q)) (fun c => R2.ir (fun q => absurd q c) (fun _ => R2.kr (fun ok => ?_)))
      have o := okb_in ok
      have o1 : (rd N 135 7).toInt < 600 := by
        have : ¬ ¬ (rd N 135 7).toNatClampNeg < 600 := fun q => o (Or.inr (by omega))
        rw [i_clamp] at this
        have := h.b0; omega
      refine R2.il (fun c6 => ?_) (fun _ => R2.kl (fun _ => R2.bl (fun M6 e6 => R2.bl (fun M7 e7 => R2.br (fun N4 e4 => R2.br (fun N5 e5 => R2.bl (fun y ey => R2.br (fun y' ey' => ?_))))))))
      · have c6 := i_le.mp c6
        rw [show ((600 : Int32)).toInt = 600 from rfl] at c6
        exfalso; omega
      · have e4 : N4 = wr N 140 (rd N 135 7).toNatClampNeg (((x1).toUInt32 >>> ((x2).toUInt32 &&& Int32.toUInt32 31)).toInt32 &&& (255 : Int32)) := e4
        have f6 : rd M6 0 1 = rd N 135 7 := by rw [e6, rd_wk (by decide)]; exact h.bn
        have f4 : rd N4 135 7 = rd N 135 7 := by rw [e4, rd_wk (by decide)]
        rw [f6] at e7
        rw [f4] at e5
        have t := i_inc h.b0 o1
        have eyy : y = y' := by rw [ey, ey']
        rw [← eyy]
        have hs : x2 = 24 ∨ x2 = 16 ∨ x2 = 8 ∨ x2 = 0 := by
          rcases hx with q | q | q | q | q
          · exact Or.inl q
          · exact Or.inr (Or.inl q)
          · exact Or.inr (Or.inr (Or.inl q))
          · exact Or.inr (Or.inr (Or.inr q))
          · rw [q] at c; exact absurd (by decide) c
        have hy : y = 24 ∨ y = 16 ∨ y = 8 ∨ y = 0 ∨ y = -8 := by
          rw [ey]
          rcases hs with q | q | q | q <;> rw [q] <;> decide
        have nbuf : rd N5 135 7 = rd N 135 7 + 1 := by rw [e5, rd_we]
        have h7 : BF M7 N5 := by
          refine ⟨fun i hi => ?_, ?_, ?_⟩
          · rw [nbuf, t] at hi
            have r1 : rd M7 1 i = rd M6 1 i := by rw [e7, rd_wk (by decide)]
            have r5 : rd N5 140 i = rd N4 140 i := by rw [e5, rd_wk (by decide)]
            rw [r1, r5, e6, e4]
            have hc : (rd N 135 7).toNatClampNeg = (rd N 135 7).toInt.toNat := i_clamp
            by_cases q : i = (rd N 135 7).toNatClampNeg
            · rw [q, rd_we, rd_we]; exact br_byte hs
            · rw [rd_wj q, rd_wj q]; exact h.bb i (by omega)
          · rw [e7, rd_we, nbuf]
          · rw [nbuf, t]; have := h.b0; omega
        refine R2.mono (IH m y M7 N5 h7 hy) (fun a b p => ⟨p.1, KS.trans ?_ p.2.1, KS.trans ?_ p.2.2⟩)
        · rw [e7, e6]; exact (KS.rf.wr (Or.inl rfl)).wr (by decide)
        · rw [e5, e4]; exact (KS.rf.wr (Or.inl rfl)).wr (by decide)
theorem app_R {x : Int32} (h : BF M N) : R2 (mX6_append 0 x M) (mX7_append 135 x N) (fun a b => BF a.1 b.1 ∧ KS SFc M a.1 ∧ KS SFr N b.1) := by
  unfold mX6_append mX7_append
  exact app_l 5000 5000 24 M N h (Or.inl rfl)
theorem feed_R {a b c d e : Int32} (h : BF M N) : R2 (mX6_feed 0 a b c d e M) (mX7_feed 135 a b c d e N) (fun p q => BF p.1 q.1 ∧ KS SFc M p.1 ∧ KS SFr N q.1 ∧ p.2 = q.2) := by
  unfold mX6_feed mX7_feed
  refine R2.br (fun N1 e1 => ?_)
  have h1 : BF M N1 := by
    refine ⟨fun i hi => ?_, ?_, ?_⟩
    · rw [e1, rd_wk (by decide)]; rw [e1, rd_wj (by decide)] at hi; exact h.bb i hi
    · rw [e1, rd_wj (by decide)]; exact h.bn
    · rw [e1, rd_wj (by decide)]; exact h.b0
  have k1 : KS SFr N N1 := by rw [e1]; exact KS.rf.wr (by decide)
  rw [h1.bn]
  refine R2.il (fun c1 => R2.ir (fun _ => ?_) (fun q => absurd c1 q)) (fun c1 => R2.ir (fun q => absurd q c1) (fun _ => R2.ok ⟨h1, KS.rf, k1, rfl⟩))
  refine R2.mm (app_R h1) (fun M4 _ N6 _ p1 => ?_)
  refine R2.mm (app_R p1.1) (fun M7 _ N9 _ p2 => ?_)
  refine R2.mm (app_R p2.1) (fun M10 _ N12 _ p3 => ?_)
  refine R2.mm (app_R p3.1) (fun M13 _ N15 _ p4 => ?_)
  refine R2.mm (app_R p4.1) (fun M16 _ N18 _ p5 => R2.ok ⟨p5.1, ?_, ?_, p5.1.bn⟩)
  · exact (((p1.2.1.trans p2.2.1).trans p3.2.1).trans p4.2.1).trans p5.2.1
  · exact k1.trans ((((p1.2.2.trans p2.2.2).trans p3.2.2).trans p4.2.2).trans p5.2.2)
end FD
end
/-! part 60p.frc -/
section
/-! frames of the class, reading a text left out (printed) -/
abbrev SA (k _ : Nat) : Prop := 5 ≤ k
section FFcls
variable {M0 : Mem}
theorem sbv_5 {v : Int32} : 5 ≤ sbv 133 v := by
  unfold sbv
  split
  · omega
  · split <;> omega
theorem fX1_putSheet {k0 : Nat} {x1 : Int32} {x2 : Int32} {x3 : Int32} {M : Mem} (wk0 : 5 ≤ k0) (hM : KS SA M0 M) : Fr SA M0 (mX1_putSheet k0 x1 x2 x3 M) := by
  unfold mX1_putSheet
  exact (Fr.bw (show 5 ≤ _ by first | omega | exact sbv_5) hM (fun M1 hM1 => (Fr.bw (show 5 ≤ _ by first | omega | exact sbv_5) hM1 (fun M3 hM3 => (Fr.bw (show 5 ≤ _ by first | omega | exact sbv_5) hM3 (fun M5 hM5 => (Fr.ok hM5)))))))
theorem fX1_putTool {k0 : Nat} {x1 : Int32} {x2 : Int32} {x3 : Int32} {M : Mem} (wk0 : 5 ≤ k0) (hM : KS SA M0 M) : Fr SA M0 (mX1_putTool k0 x1 x2 x3 M) := by
  unfold mX1_putTool
  exact (Fr.i (Fr.ok hM) (Fr.i (Fr.ok hM) (Fr.k (Fr.bw (show 5 ≤ _ by first | omega | exact sbv_5) hM (fun M5 hM5 => (Fr.k (Fr.bw (show 5 ≤ _ by first | omega | exact sbv_5) hM5 (fun M8 hM8 => (Fr.ok hM8)))))))))
theorem fX1_putCosts {k0 : Nat} {x1 : Int32} {x2 : Int32} {x3 : Int32} {M : Mem} (wk0 : 5 ≤ k0) (hM : KS SA M0 M) : Fr SA M0 (mX1_putCosts k0 x1 x2 x3 M) := by
  unfold mX1_putCosts
  exact (Fr.bw (show 5 ≤ _ by first | omega | exact sbv_5) hM (fun M1 hM1 => (Fr.bw (show 5 ≤ _ by first | omega | exact sbv_5) hM1 (fun M3 hM3 => (Fr.bw (show 5 ≤ _ by first | omega | exact sbv_5) hM3 (fun M5 hM5 => (Fr.ok hM5)))))))
theorem fX1_dropSteps {k0 : Nat} {M : Mem} (wk0 : 5 ≤ k0) (hM : KS SA M0 M) : Fr SA M0 (mX1_dropSteps k0 M) := by
  unfold mX1_dropSteps
  exact (Fr.bw (show 5 ≤ _ by first | omega | exact sbv_5) hM (fun M1 hM1 => (Fr.bw (show 5 ≤ _ by first | omega | exact sbv_5) hM1 (fun M3 hM3 => (Fr.ok hM3)))))
theorem fX1_copyFrom {k0 : Nat} {k1 : Nat} {M : Mem} (wk0 : 5 ≤ k0) (hM : KS SA M0 M) : Fr SA M0 (mX1_copyFrom k0 k1 M) := by
  unfold mX1_copyFrom
  exact (Fr.bw (show 5 ≤ _ by first | omega | exact sbv_5) hM (fun M1 hM1 => (Fr.bc (fun _ => (show 5 ≤ _ by first | omega | exact sbv_5)) hM1 (fun M3 hM3 => (Fr.bw (show 5 ≤ _ by first | omega | exact sbv_5) hM3 (fun M5 hM5 => (Fr.m (fX1_putSheet (by first | omega | exact sbv_5) hM5) (fun M9 _ hM9 => (Fr.bc (fun _ => (show 5 ≤ _ by first | omega | exact sbv_5)) hM9 (fun M10 hM10 => (Fr.m (fX1_putCosts (by first | omega | exact sbv_5) hM10) (fun M14 _ hM14 => (Fr.bw (show 5 ≤ _ by first | omega | exact sbv_5) hM14 (fun M15 hM15 => (Fr.bc (fun _ => (show 5 ≤ _ by first | omega | exact sbv_5)) hM15 (fun M17 hM17 => (Fr.bc (fun _ => (show 5 ≤ _ by first | omega | exact sbv_5)) hM17 (fun M19 hM19 => (Fr.bw (show 5 ≤ _ by first | omega | exact sbv_5) hM19 (fun M21 hM21 => (Fr.bw (show 5 ≤ _ by first | omega | exact sbv_5) hM21 (fun M23 hM23 => (Fr.bc (fun _ => (show 5 ≤ _ by first | omega | exact sbv_5)) hM23 (fun M25 hM25 => (Fr.bc (fun _ => (show 5 ≤ _ by first | omega | exact sbv_5)) hM25 (fun M27 hM27 => (Fr.bc (fun _ => (show 5 ≤ _ by first | omega | exact sbv_5)) hM27 (fun M29 hM29 => (Fr.ok hM29)))))))))))))))))))))))))))))
theorem fX1_addStep {k0 : Nat} {x1 : Int32} {x2 : Int32} {x3 : Int32} {M : Mem} (wk0 : 5 ≤ k0) (hM : KS SA M0 M) : Fr SA M0 (mX1_addStep k0 x1 x2 x3 M) := by
  unfold mX1_addStep
  exact (Fr.i (Fr.ok hM) (Fr.k (Fr.bw (show 5 ≤ _ by first | omega | exact sbv_5) hM (fun M4 hM4 => (Fr.k (Fr.bw (show 5 ≤ _ by first | omega | exact sbv_5) hM4 (fun M7 hM7 => (Fr.k (Fr.bw (show 5 ≤ _ by first | omega | exact sbv_5) hM7 (fun M10 hM10 => (Fr.bw (show 5 ≤ _ by first | omega | exact sbv_5) hM10 (fun M11 hM11 => (Fr.bw (show 5 ≤ _ by first | omega | exact sbv_5) hM11 (fun M13 hM13 => (Fr.ok hM13)))))))))))))))
theorem fX2_walk_b272 {k0 : Nat} {k1 : Nat} {ih13 : Int32 → Int32 → Int32 → Int32 → Int32 → Int32 → Int32 → Int32 → Mem → Option (Mem × Unit)} {x3 : Int32} {x5 : Int32} {x6 : Int32} {x7 : Int32} {x8 : Int32} {x9 : Int32} {x10 : Int32} {x11 : Int32} {M : Mem} (hih13 : ∀ (v0 : Int32) (v1 : Int32) (v2 : Int32) (v3 : Int32) (v4 : Int32) (v5 : Int32) (v6 : Int32) (v7 : Int32) (v8 : Mem), KS SA M0 v8 → Fr SA M0 (ih13 v0 v1 v2 v3 v4 v5 v6 v7 v8)) (hM : KS SA M0 M) : Fr SA M0 (mX2_walk_b272 k0 k1 ih13 x3 x5 x6 x7 x8 x9 x10 x11 M) := by
  unfold mX2_walk_b272
  exact (Fr.b (fun x11_276 => (hih13 _ _ _ _ _ _ _ _ _ hM)))
theorem fX2_walk_b267 {k0 : Nat} {k1 : Nat} {ih13 : Int32 → Int32 → Int32 → Int32 → Int32 → Int32 → Int32 → Int32 → Mem → Option (Mem × Unit)} {x3 : Int32} {x5 : Int32} {x6 : Int32} {x7 : Int32} {x8 : Int32} {x9 : Int32} {x11 : Int32} {y0 : Int32} {y1 : Int32} {M : Mem} (hih13 : ∀ (v0 : Int32) (v1 : Int32) (v2 : Int32) (v3 : Int32) (v4 : Int32) (v5 : Int32) (v6 : Int32) (v7 : Int32) (v8 : Mem), KS SA M0 v8 → Fr SA M0 (ih13 v0 v1 v2 v3 v4 v5 v6 v7 v8)) (hM : KS SA M0 M) : Fr SA M0 (mX2_walk_b267 k0 k1 ih13 x3 x5 x6 x7 x8 x9 x11 y0 y1 M) := by
  unfold mX2_walk_b267
  exact (Fr.b (fun x10_270 => (fX2_walk_b272 hih13 hM)))
theorem fX2_walk_b249 {k0 : Nat} {k1 : Nat} {ih13 : Int32 → Int32 → Int32 → Int32 → Int32 → Int32 → Int32 → Int32 → Mem → Option (Mem × Unit)} {x3 : Int32} {x5 : Int32} {x6 : Int32} {x7 : Int32} {x8 : Int32} {x9 : Int32} {x10 : Int32} {x11 : Int32} {y0 : Int32} {M : Mem} (hih13 : ∀ (v0 : Int32) (v1 : Int32) (v2 : Int32) (v3 : Int32) (v4 : Int32) (v5 : Int32) (v6 : Int32) (v7 : Int32) (v8 : Mem), KS SA M0 v8 → Fr SA M0 (ih13 v0 v1 v2 v3 v4 v5 v6 v7 v8)) (hM : KS SA M0 M) : Fr SA M0 (mX2_walk_b249 k0 k1 ih13 x3 x5 x6 x7 x8 x9 x10 x11 y0 M) := by
  unfold mX2_walk_b249
  exact (Fr.i (fX2_walk_b267 hih13 hM) (fX2_walk_b267 hih13 hM))
theorem fX2_walk_b217 {k0 : Nat} {k1 : Nat} {ih13 : Int32 → Int32 → Int32 → Int32 → Int32 → Int32 → Int32 → Int32 → Mem → Option (Mem × Unit)} {x3 : Int32} {x5 : Int32} {x6 : Int32} {x7 : Int32} {x8 : Int32} {x9 : Int32} {x10 : Int32} {x11 : Int32} {y0 : Int32} {M : Mem} (hih13 : ∀ (v0 : Int32) (v1 : Int32) (v2 : Int32) (v3 : Int32) (v4 : Int32) (v5 : Int32) (v6 : Int32) (v7 : Int32) (v8 : Mem), KS SA M0 v8 → Fr SA M0 (ih13 v0 v1 v2 v3 v4 v5 v6 v7 v8)) (hM : KS SA M0 M) : Fr SA M0 (mX2_walk_b217 k0 k1 ih13 x3 x5 x6 x7 x8 x9 x10 x11 y0 M) := by
  unfold mX2_walk_b217
  exact (Fr.i (fX2_walk_b272 hih13 hM) (Fr.i (fX2_walk_b272 hih13 hM) (Fr.i (fX2_walk_b249 hih13 hM) (fX2_walk_b249 hih13 hM))))
theorem fX2_walk_b108 {k0 : Nat} {k1 : Nat} {ih13 : Int32 → Int32 → Int32 → Int32 → Int32 → Int32 → Int32 → Int32 → Mem → Option (Mem × Unit)} {x3 : Int32} {x5 : Int32} {x6 : Int32} {x7 : Int32} {x8 : Int32} {x9 : Int32} {x10 : Int32} {x11 : Int32} {y1 : Int32} {y2 : Int32} {y3 : Int32} {M : Mem} (wk0 : 5 ≤ k0) (hih13 : ∀ (v0 : Int32) (v1 : Int32) (v2 : Int32) (v3 : Int32) (v4 : Int32) (v5 : Int32) (v6 : Int32) (v7 : Int32) (v8 : Mem), KS SA M0 v8 → Fr SA M0 (ih13 v0 v1 v2 v3 v4 v5 v6 v7 v8)) (hM : KS SA M0 M) : Fr SA M0 (mX2_walk_b108 k0 k1 ih13 x3 x5 x6 x7 x8 x9 x10 x11 y1 y2 y3 M) := by
  unfold mX2_walk_b108
  exact (Fr.k (Fr.bw (show 5 ≤ _ by first | omega | exact sbv_5) hM (fun M15 hM15 => (Fr.k (Fr.k (Fr.bw (show 5 ≤ _ by first | omega | exact sbv_5) hM15 (fun M19 hM19 => (Fr.k (Fr.k (Fr.bw (show 5 ≤ _ by first | omega | exact sbv_5) hM19 (fun M23 hM23 => (Fr.k (Fr.k (Fr.bw (show 5 ≤ _ by first | omega | exact sbv_5) hM23 (fun M27 hM27 => (Fr.k (Fr.k (Fr.bw (show 5 ≤ _ by first | omega | exact sbv_5) hM27 (fun M31 hM31 => (Fr.k (Fr.b (fun x8_193 => (Fr.k (Fr.b (fun x9_202 => (Fr.i (fX2_walk_b217 hih13 hM31) (fX2_walk_b217 hih13 hM31)))))))))))))))))))))))))))
theorem fX2_walk_b75 {k0 : Nat} {k1 : Nat} {ih13 : Int32 → Int32 → Int32 → Int32 → Int32 → Int32 → Int32 → Int32 → Mem → Option (Mem × Unit)} {x3 : Int32} {x5 : Int32} {x6 : Int32} {x7 : Int32} {x8 : Int32} {x9 : Int32} {x10 : Int32} {x11 : Int32} {x12 : Int32} {y1 : Int32} {y2 : Int32} {y3 : Int32} {M : Mem} (wk0 : 5 ≤ k0) (hih13 : ∀ (v0 : Int32) (v1 : Int32) (v2 : Int32) (v3 : Int32) (v4 : Int32) (v5 : Int32) (v6 : Int32) (v7 : Int32) (v8 : Mem), KS SA M0 v8 → Fr SA M0 (ih13 v0 v1 v2 v3 v4 v5 v6 v7 v8)) (hM : KS SA M0 M) : Fr SA M0 (mX2_walk_b75 k0 k1 ih13 x3 x5 x6 x7 x8 x9 x10 x11 x12 y1 y2 y3 M) := by
  unfold mX2_walk_b75
  exact (Fr.k (Fr.bw (show 5 ≤ _ by first | omega | exact sbv_5) hM (fun M10 hM10 => (Fr.i (fX2_walk_b108 (by first | omega | exact sbv_5) hih13 hM10) (Fr.i (fX2_walk_b108 (by first | omega | exact sbv_5) hih13 hM10) (fX2_walk_b108 (by first | omega | exact sbv_5) hih13 hM10))))))
theorem fX2_walk_b13 {k0 : Nat} {k1 : Nat} {ih13 : Int32 → Int32 → Int32 → Int32 → Int32 → Int32 → Int32 → Int32 → Mem → Option (Mem × Unit)} {x3 : Int32} {x5 : Int32} {x6 : Int32} {x7 : Int32} {x8 : Int32} {x9 : Int32} {x10 : Int32} {x11 : Int32} {M : Mem} (wk0 : 5 ≤ k0) (hih13 : ∀ (v0 : Int32) (v1 : Int32) (v2 : Int32) (v3 : Int32) (v4 : Int32) (v5 : Int32) (v6 : Int32) (v7 : Int32) (v8 : Mem), KS SA M0 v8 → Fr SA M0 (ih13 v0 v1 v2 v3 v4 v5 v6 v7 v8)) (hM : KS SA M0 M) : Fr SA M0 (mX2_walk_b13 k0 k1 ih13 x3 x5 x6 x7 x8 x9 x10 x11 M) := by
  unfold mX2_walk_b13
  exact (Fr.i (Fr.ok hM) (Fr.i (Fr.ok hM) (Fr.i (Fr.ok hM) (Fr.k (Fr.b (fun x12_41 => (Fr.i (fX2_walk_b75 (by first | omega | exact sbv_5) hih13 hM) (Fr.i (fX2_walk_b75 (by first | omega | exact sbv_5) hih13 hM) (fX2_walk_b75 (by first | omega | exact sbv_5) hih13 hM)))))))))
theorem fX2_walk_l13_n {k0 : Nat} {k1 : Nat} (wk0 : 5 ≤ k0) : ∀ (n : Nat) (v0 : Int32) (v1 : Int32) (v2 : Int32) (v3 : Int32) (v4 : Int32) (v5 : Int32) (v6 : Int32) (v7 : Int32) (v8 : Mem), KS SA M0 v8 → Fr SA M0 (mX2_walk_l13 k0 k1 n v0 v1 v2 v3 v4 v5 v6 v7 v8) := by
  intro n
  induction n with
  | zero => intro v0 v1 v2 v3 v4 v5 v6 v7 v8 h; exact Fr.n
  | succ n IH => intro v0 v1 v2 v3 v4 v5 v6 v7 v8 h; exact fX2_walk_b13 (by omega) IH h
theorem fX2_walk_l13 {k0 : Nat} {k1 : Nat} {v0 : Int32} {v1 : Int32} {v2 : Int32} {v3 : Int32} {v4 : Int32} {v5 : Int32} {v6 : Int32} {v7 : Int32} {v8 : Mem} (wk0 : 5 ≤ k0) {n : Nat} (h : KS SA M0 v8) : Fr SA M0 (mX2_walk_l13 k0 k1 n v0 v1 v2 v3 v4 v5 v6 v7 v8) := fX2_walk_l13_n wk0  n v0 v1 v2 v3 v4 v5 v6 v7 v8 h
theorem fX2_walk {k0 : Nat} {k1 : Nat} {x2 : Int32} {x3 : Int32} {x4 : Int32} {x5 : Int32} {x6 : Int32} {x7 : Int32} {M : Mem} (wk0 : 5 ≤ k0) (hM : KS SA M0 M) : Fr SA M0 (mX2_walk k0 k1 x2 x3 x4 x5 x6 x7 M) := by
  unfold mX2_walk
  exact (fX2_walk_l13 (by first | omega | exact sbv_5) hM)
theorem fX2_layFinished {k0 : Nat} {k1 : Nat} {M : Mem} (wk0 : 5 ≤ k0) (hM : KS SA M0 M) : Fr SA M0 (mX2_layFinished k0 k1 M) := by
  unfold mX2_layFinished
  exact (Fr.bw (show 5 ≤ _ by first | omega | exact sbv_5) hM (fun M1 hM1 => (Fr.c (fun r4 => (Fr.m (fX2_walk (by first | omega | exact sbv_5) hM1) (fun M8 _ hM8 => (Fr.ok hM8)))))))
theorem fX2_layStep_b27 {k0 : Nat} {k1 : Nat} {x2 : Int32} {x3 : Int32} {x4 : Int32} {y0 : Int32} {M : Mem} (wk0 : 5 ≤ k0) (hM : KS SA M0 M) : Fr SA M0 (mX2_layStep_b27 k0 k1 x2 x3 x4 y0 M) := by
  unfold mX2_layStep_b27
  exact (Fr.bw (show 5 ≤ _ by first | omega | exact sbv_5) hM (fun M6 hM6 => (Fr.i (Fr.bw (show 5 ≤ _ by first | omega | exact sbv_5) hM6 (fun M19 hM19 => (Fr.bw (show 5 ≤ _ by first | omega | exact sbv_5) hM19 (fun M21 hM21 => (Fr.m (fX2_walk (by first | omega | exact sbv_5) hM21) (fun M25 _ hM25 => (Fr.m (fX2_walk (by first | omega | exact sbv_5) hM25) (fun M28 _ hM28 => (Fr.ok hM28))))))))) (Fr.bw (show 5 ≤ _ by first | omega | exact sbv_5) hM6 (fun M9 hM9 => (Fr.bw (show 5 ≤ _ by first | omega | exact sbv_5) hM9 (fun M11 hM11 => (Fr.m (fX2_walk (by first | omega | exact sbv_5) hM11) (fun M15 _ hM15 => (Fr.m (fX2_walk (by first | omega | exact sbv_5) hM15) (fun M18 _ hM18 => (Fr.ok hM18))))))))))))
theorem fX2_layStep {k0 : Nat} {k1 : Nat} {x2 : Int32} {x3 : Int32} {M : Mem} (wk0 : 5 ≤ k0) (hM : KS SA M0 M) : Fr SA M0 (mX2_layStep k0 k1 x2 x3 M) := by
  unfold mX2_layStep
  exact (Fr.b (fun x4_3 => (Fr.c (fun r3 => (Fr.i (fX2_layStep_b27 (by first | omega | exact sbv_5) hM) (fX2_layStep_b27 (by first | omega | exact sbv_5) hM))))))
theorem fX2_reasonFor_b20 {k0 : Nat} {k1 : Nat} {x2 : Int32} {x3 : Int32} {x4 : Int32} {y0 : Int32} {M : Mem} (wk0 : 5 ≤ k0) (hM : KS SA M0 M) : Fr SA M0 (mX2_reasonFor_b20 k0 k1 x2 x3 x4 y0 M) := by
  unfold mX2_reasonFor_b20
  exact (Fr.i (Fr.i (Fr.ok hM) (Fr.i (Fr.ok hM) (Fr.k (Fr.k (Fr.i (Fr.m (fX2_layStep (by first | omega | exact sbv_5) hM) (fun M11 _ hM11 => (Fr.c (fun r13 => (Fr.k (Fr.i (Fr.ok hM11) (Fr.k (Fr.i (Fr.c (fun r20 => (Fr.b (fun x8_123 => (Fr.i (Fr.i (Fr.c (fun r26 => (Fr.i (Fr.ok hM11) (Fr.ok hM11)))) (Fr.ok hM11)) (Fr.ok hM11)))))) (Fr.ok hM11))))))))) (Fr.ok hM)))))) (Fr.ok hM))
theorem fX2_reasonFor {k0 : Nat} {k1 : Nat} {x2 : Int32} {x3 : Int32} {M : Mem} (wk0 : 5 ≤ k0) (hM : KS SA M0 M) : Fr SA M0 (mX2_reasonFor k0 k1 x2 x3 M) := by
  unfold mX2_reasonFor
  exact (Fr.b (fun x4_3 => (Fr.i (fX2_reasonFor_b20 (by first | omega | exact sbv_5) hM) (fX2_reasonFor_b20 (by first | omega | exact sbv_5) hM))))
theorem fX2_possibleSteps_b34 {k0 : Nat} {k1 : Nat} {ih5 : Int32 → Int32 → Int32 → Mem → Option (Mem × Int32)} {x2 : Int32} {x3 : Int32} {x4 : Int32} {M : Mem} (hih5 : ∀ (v0 : Int32) (v1 : Int32) (v2 : Int32) (v3 : Mem), KS SA M0 v3 → Fr SA M0 (ih5 v0 v1 v2 v3)) (hM : KS SA M0 M) : Fr SA M0 (mX2_possibleSteps_b34 k0 k1 ih5 x2 x3 x4 M) := by
  unfold mX2_possibleSteps_b34
  exact (Fr.b (fun x4_34 => (hih5 _ _ _ _ hM)))
theorem fX2_possibleSteps_b5 {k0 : Nat} {k1 : Nat} {ih5 : Int32 → Int32 → Int32 → Mem → Option (Mem × Int32)} {x2 : Int32} {x3 : Int32} {x4 : Int32} {M : Mem} (wk0 : 5 ≤ k0) (hih5 : ∀ (v0 : Int32) (v1 : Int32) (v2 : Int32) (v3 : Mem), KS SA M0 v3 → Fr SA M0 (ih5 v0 v1 v2 v3)) (hM : KS SA M0 M) : Fr SA M0 (mX2_possibleSteps_b5 k0 k1 ih5 x2 x3 x4 M) := by
  unfold mX2_possibleSteps_b5
  exact (Fr.c (fun r2 => (Fr.i (Fr.ok hM) (Fr.m (fX2_reasonFor (by first | omega | exact sbv_5) hM) (fun M7 r6 hM7 => (Fr.i (Fr.b (fun x3_33 => (fX2_possibleSteps_b34 hih5 hM7))) (fX2_possibleSteps_b34 hih5 hM7)))))))
theorem fX2_possibleSteps_l5_n {k0 : Nat} {k1 : Nat} (wk0 : 5 ≤ k0) : ∀ (n : Nat) (v0 : Int32) (v1 : Int32) (v2 : Int32) (v3 : Mem), KS SA M0 v3 → Fr SA M0 (mX2_possibleSteps_l5 k0 k1 n v0 v1 v2 v3) := by
  intro n
  induction n with
  | zero => intro v0 v1 v2 v3 h; exact Fr.n
  | succ n IH => intro v0 v1 v2 v3 h; exact fX2_possibleSteps_b5 (by omega) IH h
theorem fX2_possibleSteps_l5 {k0 : Nat} {k1 : Nat} {v0 : Int32} {v1 : Int32} {v2 : Int32} {v3 : Mem} (wk0 : 5 ≤ k0) {n : Nat} (h : KS SA M0 v3) : Fr SA M0 (mX2_possibleSteps_l5 k0 k1 n v0 v1 v2 v3) := fX2_possibleSteps_l5_n wk0  n v0 v1 v2 v3 h
theorem fX2_possibleSteps {k0 : Nat} {k1 : Nat} {x2 : Int32} {M : Mem} (wk0 : 5 ≤ k0) (hM : KS SA M0 M) : Fr SA M0 (mX2_possibleSteps k0 k1 x2 M) := by
  unfold mX2_possibleSteps
  exact (fX2_possibleSteps_l5 (by first | omega | exact sbv_5) hM)
theorem fX3_forgetSteps_b2 {k0 : Nat} {ih2 : Int32 → Mem → Option (Mem × Unit)} {x1 : Int32} {M : Mem} (wk0 : 5 ≤ k0) (hih2 : ∀ (v0 : Int32) (v1 : Mem), KS SA M0 v1 → Fr SA M0 (ih2 v0 v1)) (hM : KS SA M0 M) : Fr SA M0 (mX3_forgetSteps_b2 k0 ih2 x1 M) := by
  unfold mX3_forgetSteps_b2
  exact (Fr.i (Fr.ok hM) (Fr.k (Fr.bw (show 5 ≤ _ by first | omega | exact sbv_5) hM (fun M4 hM4 => (Fr.b (fun x1_16 => (hih2 _ _ hM4)))))))
theorem fX3_forgetSteps_l2_n {k0 : Nat} (wk0 : 5 ≤ k0) : ∀ (n : Nat) (v0 : Int32) (v1 : Mem), KS SA M0 v1 → Fr SA M0 (mX3_forgetSteps_l2 k0 n v0 v1) := by
  intro n
  induction n with
  | zero => intro v0 v1 h; exact Fr.n
  | succ n IH => intro v0 v1 h; exact fX3_forgetSteps_b2 (by omega) IH h
theorem fX3_forgetSteps_l2 {k0 : Nat} {v0 : Int32} {v1 : Mem} (wk0 : 5 ≤ k0) {n : Nat} (h : KS SA M0 v1) : Fr SA M0 (mX3_forgetSteps_l2 k0 n v0 v1) := fX3_forgetSteps_l2_n wk0  n v0 v1 h
theorem fX3_forgetSteps {k0 : Nat} {M : Mem} (wk0 : 5 ≤ k0) (hM : KS SA M0 M) : Fr SA M0 (mX3_forgetSteps k0 M) := by
  unfold mX3_forgetSteps
  exact (fX3_forgetSteps_l2 (by first | omega | exact sbv_5) hM)
theorem fX3_findSteps_b63 {k0 : Nat} {k1 : Nat} {ih5 : Int32 → Int32 → Int32 → Mem → Option (Mem × Int32)} {x2 : Int32} {x3 : Int32} {x4 : Int32} {M : Mem} (hih5 : ∀ (v0 : Int32) (v1 : Int32) (v2 : Int32) (v3 : Mem), KS SA M0 v3 → Fr SA M0 (ih5 v0 v1 v2 v3)) (hM : KS SA M0 M) : Fr SA M0 (mX3_findSteps_b63 k0 k1 ih5 x2 x3 x4 M) := by
  unfold mX3_findSteps_b63
  exact (Fr.b (fun x4_63 => (hih5 _ _ _ _ hM)))
theorem fX3_findSteps_b5 {k0 : Nat} {k1 : Nat} {ih5 : Int32 → Int32 → Int32 → Mem → Option (Mem × Int32)} {x2 : Int32} {x3 : Int32} {x4 : Int32} {M : Mem} (wk0 : 5 ≤ k0) (hih5 : ∀ (v0 : Int32) (v1 : Int32) (v2 : Int32) (v3 : Mem), KS SA M0 v3 → Fr SA M0 (ih5 v0 v1 v2 v3)) (hM : KS SA M0 M) : Fr SA M0 (mX3_findSteps_b5 k0 k1 ih5 x2 x3 x4 M) := by
  unfold mX3_findSteps_b5
  exact (Fr.c (fun r2 => (Fr.i (Fr.ok hM) (Fr.i (Fr.ok hM) (Fr.m (fX2_reasonFor (by first | omega | exact sbv_5) hM) (fun M8 r7 hM8 => (Fr.i (Fr.b (fun x3_43 => (Fr.c (fun r13 => (Fr.k (Fr.bw (show 5 ≤ _ by first | omega | exact sbv_5) hM8 (fun M17 hM17 => (fX3_findSteps_b63 hih5 hM17)))))))) (fX3_findSteps_b63 hih5 hM8))))))))
theorem fX3_findSteps_l5_n {k0 : Nat} {k1 : Nat} (wk0 : 5 ≤ k0) : ∀ (n : Nat) (v0 : Int32) (v1 : Int32) (v2 : Int32) (v3 : Mem), KS SA M0 v3 → Fr SA M0 (mX3_findSteps_l5 k0 k1 n v0 v1 v2 v3) := by
  intro n
  induction n with
  | zero => intro v0 v1 v2 v3 h; exact Fr.n
  | succ n IH => intro v0 v1 v2 v3 h; exact fX3_findSteps_b5 (by omega) IH h
theorem fX3_findSteps_l5 {k0 : Nat} {k1 : Nat} {v0 : Int32} {v1 : Int32} {v2 : Int32} {v3 : Mem} (wk0 : 5 ≤ k0) {n : Nat} (h : KS SA M0 v3) : Fr SA M0 (mX3_findSteps_l5 k0 k1 n v0 v1 v2 v3) := fX3_findSteps_l5_n wk0  n v0 v1 v2 v3 h
theorem fX3_findSteps {k0 : Nat} {k1 : Nat} {x2 : Int32} {M : Mem} (wk0 : 5 ≤ k0) (hM : KS SA M0 M) : Fr SA M0 (mX3_findSteps k0 k1 x2 M) := by
  unfold mX3_findSteps
  exact (fX3_findSteps_l5 (by first | omega | exact sbv_5) hM)
theorem fX3_reachSets_b142 {k0 : Nat} {k1 : Nat} {ih67 : Int32 → Mem → Option (Mem × Unit)} {ih107 : Int32 → Int32 → Mem → Option (Mem × Unit)} {x2 : Int32} {x3 : Int32} {M : Mem} (hih67 : ∀ (v0 : Int32) (v1 : Mem), KS SA M0 v1 → Fr SA M0 (ih67 v0 v1)) (hih107 : ∀ (v0 : Int32) (v1 : Int32) (v2 : Mem), KS SA M0 v2 → Fr SA M0 (ih107 v0 v1 v2)) (hM : KS SA M0 M) : Fr SA M0 (mX3_reachSets_b142 k0 k1 ih67 ih107 x2 x3 M) := by
  unfold mX3_reachSets_b142
  exact (Fr.b (fun x3_142 => (hih107 _ _ _ hM)))
theorem fX3_reachSets_b107 {k0 : Nat} {k1 : Nat} {ih67 : Int32 → Mem → Option (Mem × Unit)} {ih107 : Int32 → Int32 → Mem → Option (Mem × Unit)} {x2 : Int32} {x3 : Int32} {M : Mem} (wk0 : 5 ≤ k0) (hih67 : ∀ (v0 : Int32) (v1 : Mem), KS SA M0 v1 → Fr SA M0 (ih67 v0 v1)) (hih107 : ∀ (v0 : Int32) (v1 : Int32) (v2 : Mem), KS SA M0 v2 → Fr SA M0 (ih107 v0 v1 v2)) (hM : KS SA M0 M) : Fr SA M0 (mX3_reachSets_b107 k0 k1 ih67 ih107 x2 x3 M) := by
  unfold mX3_reachSets_b107
  exact (Fr.i (Fr.b (fun x2_148 => (hih67 _ _ hM))) (Fr.k (Fr.i (fX3_reachSets_b142 hih67 hih107 hM) (Fr.c (fun r21 => (Fr.i (fX3_reachSets_b142 hih67 hih107 hM) (Fr.c (fun r25 => (Fr.k (Fr.bw (show 5 ≤ _ by first | omega | exact sbv_5) hM (fun M29 hM29 => (fX3_reachSets_b142 hih67 hih107 hM29))))))))))))
theorem fX3_reachSets_l107_n {k0 : Nat} {k1 : Nat} {ih67 : Int32 → Mem → Option (Mem × Unit)} (wk0 : 5 ≤ k0) (hih67 : ∀ (u0 : Int32) (u1 : Mem), KS SA M0 u1 → Fr SA M0 (ih67 u0 u1)) : ∀ (n : Nat) (v0 : Int32) (v1 : Int32) (v2 : Mem), KS SA M0 v2 → Fr SA M0 (mX3_reachSets_l107 k0 k1 ih67 n v0 v1 v2) := by
  intro n
  induction n with
  | zero => intro v0 v1 v2 h; exact Fr.n
  | succ n IH => intro v0 v1 v2 h; exact fX3_reachSets_b107 (by omega) hih67 IH h
theorem fX3_reachSets_l107 {k0 : Nat} {k1 : Nat} {ih67 : Int32 → Mem → Option (Mem × Unit)} {v0 : Int32} {v1 : Int32} {v2 : Mem} (wk0 : 5 ≤ k0) (hih67 : ∀ (u0 : Int32) (u1 : Mem), KS SA M0 u1 → Fr SA M0 (ih67 u0 u1)) {n : Nat} (h : KS SA M0 v2) : Fr SA M0 (mX3_reachSets_l107 k0 k1 ih67 n v0 v1 v2) := fX3_reachSets_l107_n wk0 hih67 n v0 v1 v2 h
theorem fX3_reachSets_b105 {k0 : Nat} {k1 : Nat} {ih67 : Int32 → Mem → Option (Mem × Unit)} {x2 : Int32} {M : Mem} (wk0 : 5 ≤ k0) (hih67 : ∀ (v0 : Int32) (v1 : Mem), KS SA M0 v1 → Fr SA M0 (ih67 v0 v1)) (hM : KS SA M0 M) : Fr SA M0 (mX3_reachSets_b105 k0 k1 ih67 x2 M) := by
  unfold mX3_reachSets_b105
  exact (fX3_reachSets_l107 (by first | omega | exact sbv_5) hih67 hM)
theorem fX3_reachSets_b67 {k0 : Nat} {k1 : Nat} {ih67 : Int32 → Mem → Option (Mem × Unit)} {x2 : Int32} {M : Mem} (wk0 : 5 ≤ k0) (hih67 : ∀ (v0 : Int32) (v1 : Mem), KS SA M0 v1 → Fr SA M0 (ih67 v0 v1)) (hM : KS SA M0 M) : Fr SA M0 (mX3_reachSets_b67 k0 k1 ih67 x2 M) := by
  unfold mX3_reachSets_b67
  exact (Fr.i (Fr.ok hM) (Fr.k (Fr.i (fX3_reachSets_b105 (by first | omega | exact sbv_5) hih67 hM) (Fr.k (Fr.i (Fr.m (fX3_findSteps (by first | omega | exact sbv_5) hM) (fun M34 r33 hM34 => (Fr.k (Fr.bw (show 5 ≤ _ by first | omega | exact sbv_5) hM34 (fun M37 hM37 => (fX3_reachSets_b105 (by first | omega | exact sbv_5) hih67 hM37)))))) (fX3_reachSets_b105 (by first | omega | exact sbv_5) hih67 hM))))))
theorem fX3_reachSets_l67_n {k0 : Nat} {k1 : Nat} (wk0 : 5 ≤ k0) : ∀ (n : Nat) (v0 : Int32) (v1 : Mem), KS SA M0 v1 → Fr SA M0 (mX3_reachSets_l67 k0 k1 n v0 v1) := by
  intro n
  induction n with
  | zero => intro v0 v1 h; exact Fr.n
  | succ n IH => intro v0 v1 h; exact fX3_reachSets_b67 (by omega) IH h
theorem fX3_reachSets_l67 {k0 : Nat} {k1 : Nat} {v0 : Int32} {v1 : Mem} (wk0 : 5 ≤ k0) {n : Nat} (h : KS SA M0 v1) : Fr SA M0 (mX3_reachSets_l67 k0 k1 n v0 v1) := fX3_reachSets_l67_n wk0  n v0 v1 h
theorem fX3_reachSets_b55 {k0 : Nat} {k1 : Nat} {ih30 : Int32 → Mem → Option (Mem × Unit)} {x2 : Int32} {y1 : Int32} {y2 : Int32} {M : Mem} (wk0 : 5 ≤ k0) (hih30 : ∀ (v0 : Int32) (v1 : Mem), KS SA M0 v1 → Fr SA M0 (ih30 v0 v1)) (hM : KS SA M0 M) : Fr SA M0 (mX3_reachSets_b55 k0 k1 ih30 x2 y1 y2 M) := by
  unfold mX3_reachSets_b55
  exact (Fr.k (Fr.bw (show 5 ≤ _ by first | omega | exact sbv_5) hM (fun M41 hM41 => (Fr.b (fun x2_56 => (hih30 _ _ hM41))))))
theorem fX3_reachSets_b30 {k0 : Nat} {k1 : Nat} {ih30 : Int32 → Mem → Option (Mem × Unit)} {x2 : Int32} {M : Mem} (wk0 : 5 ≤ k0) (hih30 : ∀ (v0 : Int32) (v1 : Mem), KS SA M0 v1 → Fr SA M0 (ih30 v0 v1)) (hM : KS SA M0 M) : Fr SA M0 (mX3_reachSets_b30 k0 k1 ih30 x2 M) := by
  unfold mX3_reachSets_b30
  exact (Fr.i (Fr.b (fun x2_66 => (fX3_reachSets_l67 (by first | omega | exact sbv_5) hM))) (Fr.i (fX3_reachSets_b55 (by first | omega | exact sbv_5) hih30 hM) (fX3_reachSets_b55 (by first | omega | exact sbv_5) hih30 hM)))
theorem fX3_reachSets_l30_n {k0 : Nat} {k1 : Nat} (wk0 : 5 ≤ k0) : ∀ (n : Nat) (v0 : Int32) (v1 : Mem), KS SA M0 v1 → Fr SA M0 (mX3_reachSets_l30 k0 k1 n v0 v1) := by
  intro n
  induction n with
  | zero => intro v0 v1 h; exact Fr.n
  | succ n IH => intro v0 v1 h; exact fX3_reachSets_b30 (by omega) IH h
theorem fX3_reachSets_l30 {k0 : Nat} {k1 : Nat} {v0 : Int32} {v1 : Mem} (wk0 : 5 ≤ k0) {n : Nat} (h : KS SA M0 v1) : Fr SA M0 (mX3_reachSets_l30 k0 k1 n v0 v1) := fX3_reachSets_l30_n wk0  n v0 v1 h
theorem fX3_reachSets_b15 {k0 : Nat} {k1 : Nat} {M : Mem} (wk0 : 5 ≤ k0) (hM : KS SA M0 M) : Fr SA M0 (mX3_reachSets_b15 k0 k1 M) := by
  unfold mX3_reachSets_b15
  exact (Fr.m (fX1_copyFrom (by first | omega | exact sbv_5) hM) (fun M7 _ hM7 => (Fr.bw (show 5 ≤ _ by first | omega | exact sbv_5) hM7 (fun M8 hM8 => (fX3_reachSets_l30 (by first | omega | exact sbv_5) hM8)))))
theorem fX3_reachSets {k0 : Nat} {k1 : Nat} {M : Mem} (wk0 : 5 ≤ k0) (hM : KS SA M0 M) : Fr SA M0 (mX3_reachSets k0 k1 M) := by
  unfold mX3_reachSets
  exact (Fr.c (fun r2 => (Fr.i (Fr.m (fX3_forgetSteps (by first | omega | exact sbv_5) hM) (fun M45 _ hM45 => (fX3_reachSets_b15 (by first | omega | exact sbv_5) hM45))) (fX3_reachSets_b15 (by first | omega | exact sbv_5) hM))))
theorem fX3_countOrders_b78 {k0 : Nat} {k1 : Nat} {ih9 : Int32 → Int32 → Mem → Option (Mem × Unit)} {ih32 : Int32 → Int32 → Int32 → Mem → Option (Mem × Unit)} {x2 : Int32} {x3 : Int32} {x4 : Int32} {M : Mem} (hih9 : ∀ (v0 : Int32) (v1 : Int32) (v2 : Mem), KS SA M0 v2 → Fr SA M0 (ih9 v0 v1 v2)) (hih32 : ∀ (v0 : Int32) (v1 : Int32) (v2 : Int32) (v3 : Mem), KS SA M0 v3 → Fr SA M0 (ih32 v0 v1 v2 v3)) (hM : KS SA M0 M) : Fr SA M0 (mX3_countOrders_b78 k0 k1 ih9 ih32 x2 x3 x4 M) := by
  unfold mX3_countOrders_b78
  exact (Fr.b (fun x4_78 => (hih32 _ _ _ _ hM)))
theorem fX3_countOrders_b32 {k0 : Nat} {k1 : Nat} {ih9 : Int32 → Int32 → Mem → Option (Mem × Unit)} {ih32 : Int32 → Int32 → Int32 → Mem → Option (Mem × Unit)} {x2 : Int32} {x3 : Int32} {x4 : Int32} {M : Mem} (wk0 : 5 ≤ k0) (hih9 : ∀ (v0 : Int32) (v1 : Int32) (v2 : Mem), KS SA M0 v2 → Fr SA M0 (ih9 v0 v1 v2)) (hih32 : ∀ (v0 : Int32) (v1 : Int32) (v2 : Int32) (v3 : Mem), KS SA M0 v3 → Fr SA M0 (ih32 v0 v1 v2 v3)) (hM : KS SA M0 M) : Fr SA M0 (mX3_countOrders_b32 k0 k1 ih9 ih32 x2 x3 x4 M) := by
  unfold mX3_countOrders_b32
  exact (Fr.i (Fr.b (fun x3_84 => (hih9 _ _ _ hM))) (Fr.k (Fr.i (fX3_countOrders_b78 hih9 hih32 hM) (Fr.c (fun r15 => (Fr.i (fX3_countOrders_b78 hih9 hih32 hM) (Fr.k (Fr.c (fun r20 => (Fr.k (Fr.k (Fr.bl hM (fun M25 hM25 => (fX3_countOrders_b78 hih9 hih32 hM25))))))))))))))
theorem fX3_countOrders_l32_n {k0 : Nat} {k1 : Nat} {ih9 : Int32 → Int32 → Mem → Option (Mem × Unit)} (wk0 : 5 ≤ k0) (hih9 : ∀ (u0 : Int32) (u1 : Int32) (u2 : Mem), KS SA M0 u2 → Fr SA M0 (ih9 u0 u1 u2)) : ∀ (n : Nat) (v0 : Int32) (v1 : Int32) (v2 : Int32) (v3 : Mem), KS SA M0 v3 → Fr SA M0 (mX3_countOrders_l32 k0 k1 ih9 n v0 v1 v2 v3) := by
  intro n
  induction n with
  | zero => intro v0 v1 v2 v3 h; exact Fr.n
  | succ n IH => intro v0 v1 v2 v3 h; exact fX3_countOrders_b32 (by omega) hih9 IH h
theorem fX3_countOrders_l32 {k0 : Nat} {k1 : Nat} {ih9 : Int32 → Int32 → Mem → Option (Mem × Unit)} {v0 : Int32} {v1 : Int32} {v2 : Int32} {v3 : Mem} (wk0 : 5 ≤ k0) (hih9 : ∀ (u0 : Int32) (u1 : Int32) (u2 : Mem), KS SA M0 u2 → Fr SA M0 (ih9 u0 u1 u2)) {n : Nat} (h : KS SA M0 v3) : Fr SA M0 (mX3_countOrders_l32 k0 k1 ih9 n v0 v1 v2 v3) := fX3_countOrders_l32_n wk0 hih9 n v0 v1 v2 v3 h
theorem fX3_countOrders_b28 {k0 : Nat} {k1 : Nat} {ih9 : Int32 → Int32 → Mem → Option (Mem × Unit)} {x2 : Int32} {x3 : Int32} {y1 : Int32} {y2 : Int64} {M : Mem} (wk0 : 5 ≤ k0) (hih9 : ∀ (v0 : Int32) (v1 : Int32) (v2 : Mem), KS SA M0 v2 → Fr SA M0 (ih9 v0 v1 v2)) (hM : KS SA M0 M) : Fr SA M0 (mX3_countOrders_b28 k0 k1 ih9 x2 x3 y1 y2 M) := by
  unfold mX3_countOrders_b28
  exact (Fr.k (Fr.bl hM (fun M8 hM8 => (fX3_countOrders_l32 (by first | omega | exact sbv_5) hih9 hM8))))
theorem fX3_countOrders_b9 {k0 : Nat} {k1 : Nat} {ih9 : Int32 → Int32 → Mem → Option (Mem × Unit)} {x2 : Int32} {x3 : Int32} {M : Mem} (wk0 : 5 ≤ k0) (hih9 : ∀ (v0 : Int32) (v1 : Int32) (v2 : Mem), KS SA M0 v2 → Fr SA M0 (ih9 v0 v1 v2)) (hM : KS SA M0 M) : Fr SA M0 (mX3_countOrders_b9 k0 k1 ih9 x2 x3 M) := by
  unfold mX3_countOrders_b9
  exact (Fr.i (Fr.ok hM) (Fr.i (fX3_countOrders_b28 (by first | omega | exact sbv_5) hih9 hM) (fX3_countOrders_b28 (by first | omega | exact sbv_5) hih9 hM)))
theorem fX3_countOrders_l9_n {k0 : Nat} {k1 : Nat} (wk0 : 5 ≤ k0) : ∀ (n : Nat) (v0 : Int32) (v1 : Int32) (v2 : Mem), KS SA M0 v2 → Fr SA M0 (mX3_countOrders_l9 k0 k1 n v0 v1 v2) := by
  intro n
  induction n with
  | zero => intro v0 v1 v2 h; exact Fr.n
  | succ n IH => intro v0 v1 v2 h; exact fX3_countOrders_b9 (by omega) IH h
theorem fX3_countOrders_l9 {k0 : Nat} {k1 : Nat} {v0 : Int32} {v1 : Int32} {v2 : Mem} (wk0 : 5 ≤ k0) {n : Nat} (h : KS SA M0 v2) : Fr SA M0 (mX3_countOrders_l9 k0 k1 n v0 v1 v2) := fX3_countOrders_l9_n wk0  n v0 v1 v2 h
theorem fX3_countOrders {k0 : Nat} {k1 : Nat} {M : Mem} (wk0 : 5 ≤ k0) (hM : KS SA M0 M) : Fr SA M0 (mX3_countOrders k0 k1 M) := by
  unfold mX3_countOrders
  exact (Fr.c (fun r2 => (fX3_countOrders_l9 (by first | omega | exact sbv_5) hM)))
theorem fX3_reckonCostsBehind_b101 {k0 : Nat} {k1 : Nat} {ih2 : Int32 → Int32 → Mem → Option (Mem × Unit)} {x2 : Int32} {x3 : Int32} {M : Mem} (hih2 : ∀ (v0 : Int32) (v1 : Int32) (v2 : Mem), KS SA M0 v2 → Fr SA M0 (ih2 v0 v1 v2)) (hM : KS SA M0 M) : Fr SA M0 (mX3_reckonCostsBehind_b101 k0 k1 ih2 x2 x3 M) := by
  unfold mX3_reckonCostsBehind_b101
  exact (Fr.b (fun x3_101 => (hih2 _ _ _ hM)))
theorem fX3_reckonCostsBehind_b2 {k0 : Nat} {k1 : Nat} {ih2 : Int32 → Int32 → Mem → Option (Mem × Unit)} {x2 : Int32} {x3 : Int32} {M : Mem} (wk0 : 5 ≤ k0) (hih2 : ∀ (v0 : Int32) (v1 : Int32) (v2 : Mem), KS SA M0 v2 → Fr SA M0 (ih2 v0 v1 v2)) (hM : KS SA M0 M) : Fr SA M0 (mX3_reckonCostsBehind_b2 k0 k1 ih2 x2 x3 M) := by
  unfold mX3_reckonCostsBehind_b2
  exact (Fr.i (Fr.ok hM) (Fr.b (fun x4_17 => (Fr.i (fX3_reckonCostsBehind_b101 hih2 hM) (Fr.k (Fr.i (fX3_reckonCostsBehind_b101 hih2 hM) (Fr.c (fun r8 => (Fr.i (fX3_reckonCostsBehind_b101 hih2 hM) (Fr.k (Fr.b (fun x5_57 => (Fr.c (fun r14 => (Fr.k (Fr.bw (show 5 ≤ _ by first | omega | exact sbv_5) hM (fun M18 hM18 => (Fr.c (fun r20 => (Fr.k (Fr.bw (show 5 ≤ _ by first | omega | exact sbv_5) hM18 (fun M24 hM24 => (fX3_reckonCostsBehind_b101 hih2 hM24)))))))))))))))))))))))
theorem fX3_reckonCostsBehind_l2_n {k0 : Nat} {k1 : Nat} (wk0 : 5 ≤ k0) : ∀ (n : Nat) (v0 : Int32) (v1 : Int32) (v2 : Mem), KS SA M0 v2 → Fr SA M0 (mX3_reckonCostsBehind_l2 k0 k1 n v0 v1 v2) := by
  intro n
  induction n with
  | zero => intro v0 v1 v2 h; exact Fr.n
  | succ n IH => intro v0 v1 v2 h; exact fX3_reckonCostsBehind_b2 (by omega) IH h
theorem fX3_reckonCostsBehind_l2 {k0 : Nat} {k1 : Nat} {v0 : Int32} {v1 : Int32} {v2 : Mem} (wk0 : 5 ≤ k0) {n : Nat} (h : KS SA M0 v2) : Fr SA M0 (mX3_reckonCostsBehind_l2 k0 k1 n v0 v1 v2) := fX3_reckonCostsBehind_l2_n wk0  n v0 v1 v2 h
theorem fX3_reckonCostsBehind {k0 : Nat} {k1 : Nat} {x2 : Int32} {M : Mem} (wk0 : 5 ≤ k0) (hM : KS SA M0 M) : Fr SA M0 (mX3_reckonCostsBehind k0 k1 x2 M) := by
  unfold mX3_reckonCostsBehind
  exact (fX3_reckonCostsBehind_l2 (by first | omega | exact sbv_5) hM)
theorem fX3_reckonCosts_b27 {k0 : Nat} {k1 : Nat} {ih4 : Int32 → Mem → Option (Mem × Unit)} {x2 : Int32} {M : Mem} (hih4 : ∀ (v0 : Int32) (v1 : Mem), KS SA M0 v1 → Fr SA M0 (ih4 v0 v1)) (hM : KS SA M0 M) : Fr SA M0 (mX3_reckonCosts_b27 k0 k1 ih4 x2 M) := by
  unfold mX3_reckonCosts_b27
  exact (Fr.b (fun x2_27 => (hih4 _ _ hM)))
theorem fX3_reckonCosts_b4 {k0 : Nat} {k1 : Nat} {ih4 : Int32 → Mem → Option (Mem × Unit)} {x2 : Int32} {M : Mem} (wk0 : 5 ≤ k0) (hih4 : ∀ (v0 : Int32) (v1 : Mem), KS SA M0 v1 → Fr SA M0 (ih4 v0 v1)) (hM : KS SA M0 M) : Fr SA M0 (mX3_reckonCosts_b4 k0 k1 ih4 x2 M) := by
  unfold mX3_reckonCosts_b4
  exact (Fr.i (Fr.c (fun r3 => (Fr.c (fun r6 => (Fr.c (fun r9 => (Fr.bw (show 5 ≤ _ by first | omega | exact sbv_5) hM (fun M11 hM11 => (Fr.c (fun r14 => (Fr.c (fun r17 => (Fr.c (fun r20 => (Fr.bw (show 5 ≤ _ by first | omega | exact sbv_5) hM11 (fun M22 hM22 => (Fr.ok hM22))))))))))))))))) (Fr.k (Fr.i (fX3_reckonCosts_b27 hih4 hM) (Fr.m (fX3_reckonCostsBehind (by first | omega | exact sbv_5) hM) (fun M29 _ hM29 => (fX3_reckonCosts_b27 hih4 hM29))))))
theorem fX3_reckonCosts_l4_n {k0 : Nat} {k1 : Nat} (wk0 : 5 ≤ k0) : ∀ (n : Nat) (v0 : Int32) (v1 : Mem), KS SA M0 v1 → Fr SA M0 (mX3_reckonCosts_l4 k0 k1 n v0 v1) := by
  intro n
  induction n with
  | zero => intro v0 v1 h; exact Fr.n
  | succ n IH => intro v0 v1 h; exact fX3_reckonCosts_b4 (by omega) IH h
theorem fX3_reckonCosts_l4 {k0 : Nat} {k1 : Nat} {v0 : Int32} {v1 : Mem} (wk0 : 5 ≤ k0) {n : Nat} (h : KS SA M0 v1) : Fr SA M0 (mX3_reckonCosts_l4 k0 k1 n v0 v1) := fX3_reckonCosts_l4_n wk0  n v0 v1 h
theorem fX3_reckonCosts {k0 : Nat} {k1 : Nat} {M : Mem} (wk0 : 5 ≤ k0) (hM : KS SA M0 M) : Fr SA M0 (mX3_reckonCosts k0 k1 M) := by
  unfold mX3_reckonCosts
  exact (fX3_reckonCosts_l4 (by first | omega | exact sbv_5) hM)
theorem fX3_choosePlan_b127 {k0 : Nat} {k1 : Nat} {ih40 : Int32 → Int32 → Int32 → Int32 → Int32 → Mem → Option (Mem × Unit)} {x2 : Int32} {x3 : Int32} {x4 : Int32} {x5 : Int32} {x6 : Int32} {M : Mem} (hih40 : ∀ (v0 : Int32) (v1 : Int32) (v2 : Int32) (v3 : Int32) (v4 : Int32) (v5 : Mem), KS SA M0 v5 → Fr SA M0 (ih40 v0 v1 v2 v3 v4 v5)) (hM : KS SA M0 M) : Fr SA M0 (mX3_choosePlan_b127 k0 k1 ih40 x2 x3 x4 x5 x6 M) := by
  unfold mX3_choosePlan_b127
  exact (Fr.b (fun x6_127 => (hih40 _ _ _ _ _ _ hM)))
theorem fX3_choosePlan_b40 {k0 : Nat} {k1 : Nat} {ih40 : Int32 → Int32 → Int32 → Int32 → Int32 → Mem → Option (Mem × Unit)} {x2 : Int32} {x3 : Int32} {x4 : Int32} {x5 : Int32} {x6 : Int32} {M : Mem} (wk0 : 5 ≤ k0) (hih40 : ∀ (v0 : Int32) (v1 : Int32) (v2 : Int32) (v3 : Int32) (v4 : Int32) (v5 : Mem), KS SA M0 v5 → Fr SA M0 (ih40 v0 v1 v2 v3 v4 v5)) (hM : KS SA M0 M) : Fr SA M0 (mX3_choosePlan_b40 k0 k1 ih40 x2 x3 x4 x5 x6 M) := by
  unfold mX3_choosePlan_b40
  exact (Fr.i (Fr.ok hM) (Fr.i (Fr.ok hM) (Fr.c (fun r15 => (Fr.i (fX3_choosePlan_b127 hih40 hM) (Fr.k (Fr.bw (show 5 ≤ _ by first | omega | exact sbv_5) hM (fun M21 hM21 => (Fr.bw (show 5 ≤ _ by first | omega | exact sbv_5) hM21 (fun M22 hM22 => (Fr.k (Fr.b (fun x4_104 => (Fr.c (fun r27 => (Fr.k (Fr.b (fun x5_125 => (fX3_choosePlan_b127 hih40 hM22)))))))))))))))))))
theorem fX3_choosePlan_l40_n {k0 : Nat} {k1 : Nat} (wk0 : 5 ≤ k0) : ∀ (n : Nat) (v0 : Int32) (v1 : Int32) (v2 : Int32) (v3 : Int32) (v4 : Int32) (v5 : Mem), KS SA M0 v5 → Fr SA M0 (mX3_choosePlan_l40 k0 k1 n v0 v1 v2 v3 v4 v5) := by
  intro n
  induction n with
  | zero => intro v0 v1 v2 v3 v4 v5 h; exact Fr.n
  | succ n IH => intro v0 v1 v2 v3 v4 v5 h; exact fX3_choosePlan_b40 (by omega) IH h
theorem fX3_choosePlan_l40 {k0 : Nat} {k1 : Nat} {v0 : Int32} {v1 : Int32} {v2 : Int32} {v3 : Int32} {v4 : Int32} {v5 : Mem} (wk0 : 5 ≤ k0) {n : Nat} (h : KS SA M0 v5) : Fr SA M0 (mX3_choosePlan_l40 k0 k1 n v0 v1 v2 v3 v4 v5) := fX3_choosePlan_l40_n wk0  n v0 v1 v2 v3 v4 v5 h
theorem fX3_choosePlan_b34 {k0 : Nat} {k1 : Nat} {x2 : Int32} {x3 : Int32} {x4 : Int32} {x5 : Int32} {y1 : Int32} {M : Mem} (wk0 : 5 ≤ k0) (hM : KS SA M0 M) : Fr SA M0 (mX3_choosePlan_b34 k0 k1 x2 x3 x4 x5 y1 M) := by
  unfold mX3_choosePlan_b34
  exact (Fr.bw (show 5 ≤ _ by first | omega | exact sbv_5) hM (fun M10 hM10 => (fX3_choosePlan_l40 (by first | omega | exact sbv_5) hM10)))
theorem fX3_choosePlan {k0 : Nat} {k1 : Nat} {M : Mem} (wk0 : 5 ≤ k0) (hM : KS SA M0 M) : Fr SA M0 (mX3_choosePlan k0 k1 M) := by
  unfold mX3_choosePlan
  exact (Fr.b (fun x2_4 => (Fr.c (fun r3 => (Fr.c (fun r6 => (Fr.b (fun x5_20 => (Fr.i (fX3_choosePlan_b34 (by first | omega | exact sbv_5) hM) (fX3_choosePlan_b34 (by first | omega | exact sbv_5) hM))))))))))
theorem fX3_prepare_b30 {k0 : Nat} {k1 : Nat} {M : Mem} (wk0 : 5 ≤ k0) (hM : KS SA M0 M) : Fr SA M0 (mX3_prepare_b30 k0 k1 M) := by
  unfold mX3_prepare_b30
  exact (Fr.m (fX3_reachSets (by first | omega | exact sbv_5) hM) (fun M4 _ hM4 => (Fr.m (fX3_countOrders (by first | omega | exact sbv_5) hM4) (fun M7 _ hM7 => (Fr.m (fX3_reckonCosts (by first | omega | exact sbv_5) hM7) (fun M10 _ hM10 => (Fr.m (fX3_choosePlan (by first | omega | exact sbv_5) hM10) (fun M13 _ hM13 => (Fr.bw (show 5 ≤ _ by first | omega | exact sbv_5) hM13 (fun M14 hM14 => (Fr.ok hM14)))))))))))
theorem fX3_prepare {k0 : Nat} {k1 : Nat} {M : Mem} (wk0 : 5 ≤ k0) (hM : KS SA M0 M) : Fr SA M0 (mX3_prepare k0 k1 M) := by
  unfold mX3_prepare
  exact (Fr.i (fX3_prepare_b30 (by first | omega | exact sbv_5) hM) (Fr.c (fun r17 => (Fr.i (fX3_prepare_b30 (by first | omega | exact sbv_5) hM) (Fr.c (fun r21 => (Fr.i (fX3_prepare_b30 (by first | omega | exact sbv_5) hM) (Fr.ok hM))))))))
theorem fX3_reachesAll {k0 : Nat} {k1 : Nat} {M : Mem} (wk0 : 5 ≤ k0) (hM : KS SA M0 M) : Fr SA M0 (mX3_reachesAll k0 k1 M) := by
  unfold mX3_reachesAll
  exact (Fr.m (fX3_reachSets (by first | omega | exact sbv_5) hM) (fun M3 _ hM3 => (Fr.c (fun r5 => (Fr.k (Fr.k (Fr.ok hM3)))))))
theorem fX0_remember_b32 {k0 : Nat} {k1 : Nat} {M : Mem} (wk0 : 5 ≤ k0) (hM : KS SA M0 M) : Fr SA M0 (mX0_remember_b32 k0 k1 M) := by
  unfold mX0_remember_b32
  exact (Fr.k (Fr.m (fX1_copyFrom (by first | omega | exact sbv_5) hM) (fun M5 _ hM5 => (Fr.bw (show 5 ≤ _ by first | omega | exact sbv_5) hM5 (fun M6 hM6 => (Fr.ok hM6))))))
theorem fX0_remember {k0 : Nat} {k1 : Nat} {M : Mem} (wk0 : 5 ≤ k0) (hM : KS SA M0 M) : Fr SA M0 (mX0_remember k0 k1 M) := by
  unfold mX0_remember
  exact (Fr.i (Fr.bw (show 5 ≤ _ by first | omega | exact sbv_5) hM (fun M8 hM8 => (Fr.bw (show 5 ≤ _ by first | omega | exact sbv_5) hM8 (fun M10 hM10 => (fX0_remember_b32 (by first | omega | exact sbv_5) hM10))))) (fX0_remember_b32 (by first | omega | exact sbv_5) hM))
theorem fX0_takeBack {k0 : Nat} {k1 : Nat} {M : Mem} (wk0 : 5 ≤ k0) (wk1 : 5 ≤ k1) (hM : KS SA M0 M) : Fr SA M0 (mX0_takeBack k0 k1 M) := by
  unfold mX0_takeBack
  exact (Fr.i (Fr.ok hM) (Fr.bw (show 5 ≤ _ by first | omega | exact sbv_5) hM (fun M2 hM2 => (Fr.k (Fr.m (fX1_copyFrom (by first | omega | exact sbv_5) hM2) (fun M7 _ hM7 => (Fr.ok hM7)))))))
theorem fX6_requireLeg_b21 {k0 : Nat} {M : Mem} (hM : KS SA M0 M) : Fr SA M0 (mX6_requireLeg_b21 k0 M) := by
  unfold mX6_requireLeg_b21
  exact (Fr.ok hM)
theorem fX6_requireLeg {k0 : Nat} {x1 : Int32} {M : Mem} (hM : KS SA M0 M) : Fr SA M0 (mX6_requireLeg k0 x1 M) := by
  unfold mX6_requireLeg
  exact (Fr.i (fX6_requireLeg_b21 hM) (Fr.i (fX6_requireLeg_b21 hM) (Fr.i (Fr.ok hM) (fX6_requireLeg_b21 hM))))
theorem fX6_leg {k0 : Nat} {x1 : Int32} {M : Mem} (hM : KS SA M0 M) : Fr SA M0 (mX6_leg k0 x1 M) := by
  unfold mX6_leg
  exact (Fr.x (fX6_requireLeg hM) (fun M3 _ hM3 => (Fr.k (Fr.ok hM3))))
theorem fX6_requireBend_b21 {k0 : Nat} {M : Mem} (hM : KS SA M0 M) : Fr SA M0 (mX6_requireBend_b21 k0 M) := by
  unfold mX6_requireBend_b21
  exact (Fr.ok hM)
theorem fX6_requireBend {k0 : Nat} {x1 : Int32} {M : Mem} (hM : KS SA M0 M) : Fr SA M0 (mX6_requireBend k0 x1 M) := by
  unfold mX6_requireBend
  exact (Fr.i (fX6_requireBend_b21 hM) (Fr.c (fun r3 => (Fr.i (fX6_requireBend_b21 hM) (Fr.i (Fr.ok hM) (fX6_requireBend_b21 hM))))))
theorem fX6_isUp {k0 : Nat} {x1 : Int32} {M : Mem} (hM : KS SA M0 M) : Fr SA M0 (mX6_isUp k0 x1 M) := by
  unfold mX6_isUp
  exact (Fr.x (fX6_requireBend hM) (fun M3 _ hM3 => (Fr.c (fun r6 => (Fr.k (Fr.ok hM3))))))
theorem fX6_linePlace {k0 : Nat} {x1 : Int32} {M : Mem} (hM : KS SA M0 M) : Fr SA M0 (mX6_linePlace k0 x1 M) := by
  unfold mX6_linePlace
  exact (Fr.x (fX6_requireBend hM) (fun M3 _ hM3 => (Fr.c (fun r6 => (Fr.k (Fr.c (fun r10 => (Fr.k (Fr.k (Fr.ok hM3))))))))))
theorem fX6_springBackFor_b19 {k0 : Nat} {x1 : UInt64} {y0 : Int32} {M : Mem} (hM : KS SA M0 M) : Fr SA M0 (mX6_springBackFor_b19 k0 x1 y0 M) := by
  unfold mX6_springBackFor_b19
  exact (Fr.i (Fr.ok hM) (Fr.c (fun r4 => (Fr.ok hM))))
theorem fX6_springBackFor_b18 {k0 : Nat} {x1 : UInt64} {M : Mem} (hM : KS SA M0 M) : Fr SA M0 (mX6_springBackFor_b18 k0 x1 M) := by
  unfold mX6_springBackFor_b18
  exact (fX6_springBackFor_b19 hM)
theorem fX6_springBackFor {k0 : Nat} {x1 : UInt64} {M : Mem} (hM : KS SA M0 M) : Fr SA M0 (mX6_springBackFor k0 x1 M) := by
  unfold mX6_springBackFor
  exact (Fr.i (fX6_springBackFor_b18 hM) (Fr.i (fX6_springBackFor_b18 hM) (fX6_springBackFor_b19 hM)))
theorem fX6_tool_b21 {k0 : Nat} {M : Mem} (hM : KS SA M0 M) : Fr SA M0 (mX6_tool_b21 k0 M) := by
  unfold mX6_tool_b21
  exact (Fr.ok hM)
theorem fX6_tool {k0 : Nat} {x1 : Int32} {x2 : Int32} {M : Mem} (hM : KS SA M0 M) : Fr SA M0 (mX6_tool k0 x1 x2 M) := by
  unfold mX6_tool
  exact (Fr.c (fun r2 => (Fr.o (fX6_tool_b21 hM) (fun w4 => (Fr.k (Fr.i (fX6_tool_b21 hM) (Fr.c (fun r8 => (Fr.i (Fr.k (Fr.ok hM)) (fX6_tool_b21 hM))))))))))
theorem fX6_finishedWidth {k0 : Nat} {M : Mem} (hM : KS SA M0 M) : Fr SA M0 (mX6_finishedWidth k0 M) := by
  unfold mX6_finishedWidth
  exact (Fr.m (fX2_layFinished (by first | omega | exact sbv_5) hM) (fun M3 _ hM3 => (Fr.c (fun r5 => (Fr.ok hM3)))))
theorem fX6_finishedHeight {k0 : Nat} {M : Mem} (hM : KS SA M0 M) : Fr SA M0 (mX6_finishedHeight k0 M) := by
  unfold mX6_finishedHeight
  exact (Fr.m (fX2_layFinished (by first | omega | exact sbv_5) hM) (fun M3 _ hM3 => (Fr.c (fun r5 => (Fr.ok hM3)))))
theorem fX6_isFinishedCrossed {k0 : Nat} {M : Mem} (hM : KS SA M0 M) : Fr SA M0 (mX6_isFinishedCrossed k0 M) := by
  unfold mX6_isFinishedCrossed
  exact (Fr.m (fX2_layFinished (by first | omega | exact sbv_5) hM) (fun M3 _ hM3 => (Fr.c (fun r5 => (Fr.k (Fr.ok hM3))))))
theorem fX6_requireChoice_b9 {M : Mem} (hM : KS SA M0 M) : Fr SA M0 (mX6_requireChoice_b9 M) := by
  unfold mX6_requireChoice_b9
  exact (Fr.ok hM)
theorem fX6_requireChoice {x0 : Int32} {x1 : Int32} {M : Mem} (hM : KS SA M0 M) : Fr SA M0 (mX6_requireChoice x0 x1 M) := by
  unfold mX6_requireChoice
  exact (Fr.i (fX6_requireChoice_b9 hM) (Fr.i (Fr.ok hM) (fX6_requireChoice_b9 hM)))
theorem fX6_finishedCorner {k0 : Nat} {x1 : Int32} {x2 : Int32} {M : Mem} (hM : KS SA M0 M) : Fr SA M0 (mX6_finishedCorner k0 x1 x2 M) := by
  unfold mX6_finishedCorner
  exact (Fr.x (fX6_requireLeg hM) (fun M3 _ hM3 => (Fr.x (fX6_requireChoice hM3) (fun M7 _ hM7 => (Fr.m (fX2_layFinished (by first | omega | exact sbv_5) hM7) (fun M11 _ hM11 => (Fr.i (Fr.k (Fr.ok hM11)) (Fr.k (Fr.ok hM11)))))))))
theorem fX6_step_b21 {k0 : Nat} {M : Mem} (hM : KS SA M0 M) : Fr SA M0 (mX6_step_b21 k0 M) := by
  unfold mX6_step_b21
  exact (Fr.ok hM)
theorem fX6_step {k0 : Nat} {x1 : Int32} {x2 : Int32} {M : Mem} (hM : KS SA M0 M) : Fr SA M0 (mX6_step k0 x1 x2 M) := by
  unfold mX6_step
  exact (Fr.i (fX6_step_b21 hM) (Fr.i (fX6_step_b21 hM) (Fr.i (Fr.x (fX6_requireChoice hM) (fun M6 _ hM6 => (Fr.i (Fr.k (Fr.ok hM6)) (Fr.i (Fr.k (Fr.ok hM6)) (Fr.i (Fr.k (Fr.ok hM6)) (Fr.k (Fr.ok hM6))))))) (fX6_step_b21 hM))))
theorem fX6_requireStep {k0 : Nat} {x1 : Int32} {x2 : Int32} {M : Mem} (hM : KS SA M0 M) : Fr SA M0 (mX6_requireStep k0 x1 x2 M) := by
  unfold mX6_requireStep
  exact (Fr.x (fX6_requireBend hM) (fun M3 _ hM3 => (Fr.x (fX6_requireChoice hM3) (fun M7 _ hM7 => (Fr.ok hM7)))))
theorem fX6_reasonNow {k0 : Nat} {x1 : Int32} {M : Mem} (hM : KS SA M0 M) : Fr SA M0 (mX6_reasonNow k0 x1 M) := by
  unfold mX6_reasonNow
  exact (Fr.m (fX2_reasonFor (by first | omega | exact sbv_5) hM) (fun M3 r2 hM3 => (Fr.ok hM3)))
theorem fX6_reason {k0 : Nat} {x1 : Int32} {x2 : Int32} {M : Mem} (hM : KS SA M0 M) : Fr SA M0 (mX6_reason k0 x1 x2 M) := by
  unfold mX6_reason
  exact (Fr.x (fX6_requireStep hM) (fun M3 _ hM3 => (Fr.m (fX6_reasonNow hM3) (fun M7 r6 hM7 => (Fr.ok hM7)))))
theorem fX6_gaugeNow {k0 : Nat} {x1 : Int32} {M : Mem} (hM : KS SA M0 M) : Fr SA M0 (mX6_gaugeNow k0 x1 M) := by
  unfold mX6_gaugeNow
  exact (Fr.m (fX2_layStep (by first | omega | exact sbv_5) hM) (fun M3 _ hM3 => (Fr.c (fun r5 => (Fr.ok hM3)))))
theorem fX6_gauge {k0 : Nat} {x1 : Int32} {x2 : Int32} {M : Mem} (hM : KS SA M0 M) : Fr SA M0 (mX6_gauge k0 x1 x2 M) := by
  unfold mX6_gauge
  exact (Fr.x (fX6_requireStep hM) (fun M3 _ hM3 => (Fr.m (fX6_gaugeNow hM3) (fun M7 r6 hM7 => (Fr.ok hM7)))))
theorem fX6_corner {k0 : Nat} {x1 : Int32} {x2 : Int32} {x3 : Int32} {x4 : Int32} {M : Mem} (hM : KS SA M0 M) : Fr SA M0 (mX6_corner k0 x1 x2 x3 x4 M) := by
  unfold mX6_corner
  exact (Fr.x (fX6_requireBend hM) (fun M3 _ hM3 => (Fr.x (fX6_requireLeg hM3) (fun M7 _ hM7 => (Fr.x (fX6_requireChoice hM7) (fun M11 _ hM11 => (Fr.x (fX6_requireChoice hM11) (fun M15 _ hM15 => (Fr.m (fX2_layStep (by first | omega | exact sbv_5) hM15) (fun M19 _ hM19 => (Fr.i (Fr.k (Fr.ok hM19)) (Fr.k (Fr.ok hM19)))))))))))))
theorem fX6_top {k0 : Nat} {x1 : Int32} {x2 : Int32} {M : Mem} (hM : KS SA M0 M) : Fr SA M0 (mX6_top k0 x1 x2 M) := by
  unfold mX6_top
  exact (Fr.x (fX6_requireStep hM) (fun M3 _ hM3 => (Fr.m (fX2_layStep (by first | omega | exact sbv_5) hM3) (fun M7 _ hM7 => (Fr.c (fun r9 => (Fr.ok hM7)))))))
theorem fX6_hitting {k0 : Nat} {x1 : Int32} {x2 : Int32} {M : Mem} (hM : KS SA M0 M) : Fr SA M0 (mX6_hitting k0 x1 x2 M) := by
  unfold mX6_hitting
  exact (Fr.x (fX6_requireStep hM) (fun M3 _ hM3 => (Fr.m (fX2_layStep (by first | omega | exact sbv_5) hM3) (fun M7 _ hM7 => (Fr.c (fun r9 => (Fr.ok hM7)))))))
theorem fX6_refused_b11 {k0 : Nat} {M : Mem} (hM : KS SA M0 M) : Fr SA M0 (mX6_refused_b11 k0 M) := by
  unfold mX6_refused_b11
  exact (Fr.ok hM)
theorem fX6_refused_b50 {k0 : Nat} {ih25 : Int32 → Int32 → Int32 → Mem → Option (Mem × (Int32 ⊕ Nat))} {x1 : Int32} {x2 : Int32} {x3 : Int32} {M : Mem} (hih25 : ∀ (v0 : Int32) (v1 : Int32) (v2 : Int32) (v3 : Mem), KS SA M0 v3 → Fr SA M0 (ih25 v0 v1 v2 v3)) (hM : KS SA M0 M) : Fr SA M0 (mX6_refused_b50 k0 ih25 x1 x2 x3 M) := by
  unfold mX6_refused_b50
  exact (Fr.b (fun x3_50 => (hih25 _ _ _ _ hM)))
theorem fX6_refused_b25 {k0 : Nat} {ih25 : Int32 → Int32 → Int32 → Mem → Option (Mem × (Int32 ⊕ Nat))} {x1 : Int32} {x2 : Int32} {x3 : Int32} {M : Mem} (hih25 : ∀ (v0 : Int32) (v1 : Int32) (v2 : Int32) (v3 : Mem), KS SA M0 v3 → Fr SA M0 (ih25 v0 v1 v2 v3)) (hM : KS SA M0 M) : Fr SA M0 (mX6_refused_b25 k0 ih25 x1 x2 x3 M) := by
  unfold mX6_refused_b25
  exact (Fr.c (fun r4 => (Fr.i (Fr.ok hM) (Fr.m (fX6_reasonNow hM) (fun M9 r8 hM9 => (Fr.i (Fr.b (fun x2_47 => (fX6_refused_b50 hih25 hM9))) (fX6_refused_b50 hih25 hM9)))))))
theorem fX6_refused_l25_n {k0 : Nat} : ∀ (n : Nat) (v0 : Int32) (v1 : Int32) (v2 : Int32) (v3 : Mem), KS SA M0 v3 → Fr SA M0 (mX6_refused_l25 k0 n v0 v1 v2 v3) := by
  intro n
  induction n with
  | zero => intro v0 v1 v2 v3 h; exact Fr.n
  | succ n IH => intro v0 v1 v2 v3 h; exact fX6_refused_b25  IH h
theorem fX6_refused_l25 {k0 : Nat} {v0 : Int32} {v1 : Int32} {v2 : Int32} {v3 : Mem} {n : Nat} (h : KS SA M0 v3) : Fr SA M0 (mX6_refused_l25 k0 n v0 v1 v2 v3) := fX6_refused_l25_n   n v0 v1 v2 v3 h
theorem fX6_refused {k0 : Nat} {x1 : Int32} {M : Mem} (hM : KS SA M0 M) : Fr SA M0 (mX6_refused k0 x1 M) := by
  unfold mX6_refused
  exact (Fr.i (fX6_refused_b11 hM) (Fr.i (fX6_refused_l25 hM) (fX6_refused_b11 hM)))
theorem fX6_possible {k0 : Nat} {M : Mem} (hM : KS SA M0 M) : Fr SA M0 (mX6_possible k0 M) := by
  unfold mX6_possible
  exact (Fr.m (fX2_possibleSteps (by first | omega | exact sbv_5) hM) (fun M3 r2 hM3 => (Fr.ok hM3)))
theorem fX6_stuck_b73 {k0 : Nat} {ih23 : Int32 → Int32 → Int32 → Mem → Option (Mem × Int32)} {x1 : Int32} {x2 : Int32} {x3 : Int32} {M : Mem} (hih23 : ∀ (v0 : Int32) (v1 : Int32) (v2 : Int32) (v3 : Mem), KS SA M0 v3 → Fr SA M0 (ih23 v0 v1 v2 v3)) (hM : KS SA M0 M) : Fr SA M0 (mX6_stuck_b73 k0 ih23 x1 x2 x3 M) := by
  unfold mX6_stuck_b73
  exact (Fr.b (fun x3_73 => (hih23 _ _ _ _ hM)))
theorem fX6_stuck_b53 {k0 : Nat} {ih23 : Int32 → Int32 → Int32 → Mem → Option (Mem × Int32)} {x1 : Int32} {x2 : Int32} {x3 : Int32} {y0 : Int32} {M : Mem} (hih23 : ∀ (v0 : Int32) (v1 : Int32) (v2 : Int32) (v3 : Mem), KS SA M0 v3 → Fr SA M0 (ih23 v0 v1 v2 v3)) (hM : KS SA M0 M) : Fr SA M0 (mX6_stuck_b53 k0 ih23 x1 x2 x3 y0 M) := by
  unfold mX6_stuck_b53
  exact (Fr.i (Fr.i (Fr.b (fun x2_70 => (fX6_stuck_b73 hih23 hM))) (fX6_stuck_b73 hih23 hM)) (fX6_stuck_b73 hih23 hM))
theorem fX6_stuck_b23 {k0 : Nat} {ih23 : Int32 → Int32 → Int32 → Mem → Option (Mem × Int32)} {x1 : Int32} {x2 : Int32} {x3 : Int32} {M : Mem} (hih23 : ∀ (v0 : Int32) (v1 : Int32) (v2 : Int32) (v3 : Mem), KS SA M0 v3 → Fr SA M0 (ih23 v0 v1 v2 v3)) (hM : KS SA M0 M) : Fr SA M0 (mX6_stuck_b23 k0 ih23 x1 x2 x3 M) := by
  unfold mX6_stuck_b23
  exact (Fr.c (fun r5 => (Fr.i (Fr.ok hM) (Fr.i (fX6_stuck_b53 hih23 hM) (fX6_stuck_b53 hih23 hM)))))
theorem fX6_stuck_l23_n {k0 : Nat} : ∀ (n : Nat) (v0 : Int32) (v1 : Int32) (v2 : Int32) (v3 : Mem), KS SA M0 v3 → Fr SA M0 (mX6_stuck_l23 k0 n v0 v1 v2 v3) := by
  intro n
  induction n with
  | zero => intro v0 v1 v2 v3 h; exact Fr.n
  | succ n IH => intro v0 v1 v2 v3 h; exact fX6_stuck_b23  IH h
theorem fX6_stuck_l23 {k0 : Nat} {v0 : Int32} {v1 : Int32} {v2 : Int32} {v3 : Mem} {n : Nat} (h : KS SA M0 v3) : Fr SA M0 (mX6_stuck_l23 k0 n v0 v1 v2 v3) := fX6_stuck_l23_n   n v0 v1 v2 v3 h
theorem fX6_stuck {k0 : Nat} {M : Mem} (hM : KS SA M0 M) : Fr SA M0 (mX6_stuck k0 M) := by
  unfold mX6_stuck
  exact (Fr.m (fX2_possibleSteps (by first | omega | exact sbv_5) hM) (fun M3 r2 hM3 => (fX6_stuck_l23 hM3)))
theorem fX6_costNow {k0 : Nat} {x1 : Int32} {M : Mem} (hM : KS SA M0 M) : Fr SA M0 (mX6_costNow k0 x1 M) := by
  unfold mX6_costNow
  exact (Fr.c (fun r2 => (Fr.c (fun r5 => (Fr.m (fX6_gaugeNow hM) (fun M9 r8 hM9 => (Fr.c (fun r11 => (Fr.ok hM9)))))))))
theorem fX6_costOf {k0 : Nat} {x1 : Int32} {x2 : Int32} {M : Mem} (hM : KS SA M0 M) : Fr SA M0 (mX6_costOf k0 x1 x2 M) := by
  unfold mX6_costOf
  exact (Fr.x (fX6_requireStep hM) (fun M3 _ hM3 => (Fr.m (fX6_costNow hM3) (fun M7 r6 hM7 => (Fr.ok hM7)))))
theorem fX6_orders {k0 : Nat} {M : Mem} (hM : KS SA M0 M) : Fr SA M0 (mX6_orders k0 M) := by
  unfold mX6_orders
  exact (Fr.m (fX3_prepare (by first | omega | exact sbv_5) hM) (fun M3 _ hM3 => (Fr.c (fun r5 => (Fr.ok hM3)))))
theorem fX6_leastCost {k0 : Nat} {M : Mem} (hM : KS SA M0 M) : Fr SA M0 (mX6_leastCost k0 M) := by
  unfold mX6_leastCost
  exact (Fr.m (fX3_prepare (by first | omega | exact sbv_5) hM) (fun M3 _ hM3 => (Fr.ok hM3)))
theorem fX6_plannedSteps {k0 : Nat} {M : Mem} (hM : KS SA M0 M) : Fr SA M0 (mX6_plannedSteps k0 M) := by
  unfold mX6_plannedSteps
  exact (Fr.m (fX3_prepare (by first | omega | exact sbv_5) hM) (fun M3 _ hM3 => (Fr.ok hM3)))
theorem fX6_planned_b32 {k0 : Nat} {M : Mem} (hM : KS SA M0 M) : Fr SA M0 (mX6_planned_b32 k0 M) := by
  unfold mX6_planned_b32
  exact (Fr.ok hM)
theorem fX6_planned {k0 : Nat} {x1 : Int32} {M : Mem} (hM : KS SA M0 M) : Fr SA M0 (mX6_planned k0 x1 M) := by
  unfold mX6_planned
  exact (Fr.m (fX3_prepare (by first | omega | exact sbv_5) hM) (fun M3 _ hM3 => (Fr.i (fX6_planned_b32 hM3) (Fr.i (fX6_planned_b32 hM3) (Fr.i (Fr.k (Fr.ok hM3)) (fX6_planned_b32 hM3))))))
theorem fX6_greatestCost {k0 : Nat} {M : Mem} (hM : KS SA M0 M) : Fr SA M0 (mX6_greatestCost k0 M) := by
  unfold mX6_greatestCost
  exact (Fr.m (fX3_prepare (by first | omega | exact sbv_5) hM) (fun M3 _ hM3 => (Fr.ok hM3)))
theorem fX6_ordersWith {k0 : Nat} {x1 : Int32} {x2 : Int32} {M : Mem} (hM : KS SA M0 M) : Fr SA M0 (mX6_ordersWith k0 x1 x2 M) := by
  unfold mX6_ordersWith
  exact (Fr.x (fX6_requireStep hM) (fun M3 _ hM3 => (Fr.m (fX6_reasonNow hM3) (fun M7 r6 hM7 => (Fr.i (Fr.m (fX3_prepare (by first | omega | exact sbv_5) hM7) (fun M11 _ hM11 => (Fr.c (fun r13 => (Fr.ok hM11))))) (Fr.ok hM7))))))
theorem fX6_lastSteps {k0 : Nat} {M : Mem} (hM : KS SA M0 M) : Fr SA M0 (mX6_lastSteps k0 M) := by
  unfold mX6_lastSteps
  exact (Fr.m (fX3_prepare (by first | omega | exact sbv_5) hM) (fun M3 _ hM3 => (Fr.c (fun r5 => (Fr.ok hM3)))))
theorem fX6_mostBends {k0 : Nat} {M : Mem} (hM : KS SA M0 M) : Fr SA M0 (mX6_mostBends k0 M) := by
  unfold mX6_mostBends
  exact (Fr.m (fX3_prepare (by first | omega | exact sbv_5) hM) (fun M3 _ hM3 => (Fr.c (fun r5 => (Fr.ok hM3)))))
theorem fX6_greatestBeam_b59 {k0 : Nat} {ih16 : Int32 → Int32 → Mem → Option (Mem × Int32)} {x1 : Int32} {x2 : Int32} {M : Mem} (hih16 : ∀ (v0 : Int32) (v1 : Int32) (v2 : Mem), KS SA M0 v2 → Fr SA M0 (ih16 v0 v1 v2)) (hM : KS SA M0 M) : Fr SA M0 (mX6_greatestBeam_b59 k0 ih16 x1 x2 M) := by
  unfold mX6_greatestBeam_b59
  exact (Fr.b (fun x2_62 => (hih16 _ _ _ hM)))
theorem fX6_greatestBeam_b16 {k0 : Nat} {ih16 : Int32 → Int32 → Mem → Option (Mem × Int32)} {x1 : Int32} {x2 : Int32} {M : Mem} (hih16 : ∀ (v0 : Int32) (v1 : Int32) (v2 : Mem), KS SA M0 v2 → Fr SA M0 (ih16 v0 v1 v2)) (hM : KS SA M0 M) : Fr SA M0 (mX6_greatestBeam_b16 k0 ih16 x1 x2 M) := by
  unfold mX6_greatestBeam_b16
  exact (Fr.i (Fr.i (Fr.ok hM) (Fr.ok hM)) (Fr.b (fun x3_23 => (Fr.k (Fr.bw (show 5 ≤ _ by first | omega | exact sbv_5) hM (fun M9 hM9 => (Fr.i (fX6_greatestBeam_b59 hih16 hM9) (Fr.m (fX3_reachesAll (by first | omega | exact sbv_5) hM9) (fun M14 r13 hM14 => (Fr.i (fX6_greatestBeam_b59 hih16 hM14) (fX6_greatestBeam_b59 hih16 hM14)))))))))))
theorem fX6_greatestBeam_l16_n {k0 : Nat} : ∀ (n : Nat) (v0 : Int32) (v1 : Int32) (v2 : Mem), KS SA M0 v2 → Fr SA M0 (mX6_greatestBeam_l16 k0 n v0 v1 v2) := by
  intro n
  induction n with
  | zero => intro v0 v1 v2 h; exact Fr.n
  | succ n IH => intro v0 v1 v2 h; exact fX6_greatestBeam_b16  IH h
theorem fX6_greatestBeam_l16 {k0 : Nat} {v0 : Int32} {v1 : Int32} {v2 : Mem} {n : Nat} (h : KS SA M0 v2) : Fr SA M0 (mX6_greatestBeam_l16 k0 n v0 v1 v2) := fX6_greatestBeam_l16_n   n v0 v1 v2 h
theorem fX6_greatestBeam {k0 : Nat} {M : Mem} (hM : KS SA M0 M) : Fr SA M0 (mX6_greatestBeam k0 M) := by
  unfold mX6_greatestBeam
  exact (Fr.m (fX1_copyFrom (by first | omega | exact sbv_5) hM) (fun M3 _ hM3 => (fX6_greatestBeam_l16 hM3)))
theorem fX6_requireFlat {k0 : Nat} {M : Mem} (hM : KS SA M0 M) : Fr SA M0 (mX6_requireFlat k0 M) := by
  unfold mX6_requireFlat
  exact (Fr.i (Fr.ok hM) (Fr.ok hM))
theorem fX6_costIfTurned {k0 : Nat} {x1 : Int32} {M : Mem} (hM : KS SA M0 M) : Fr SA M0 (mX6_costIfTurned k0 x1 M) := by
  unfold mX6_costIfTurned
  exact (Fr.x (fX6_requireBend hM) (fun M3 _ hM3 => (Fr.x (fX6_requireFlat hM3) (fun M7 _ hM7 => (Fr.m (fX1_copyFrom (by first | omega | exact sbv_5) hM7) (fun M11 _ hM11 => (Fr.bw (show 5 ≤ _ by first | omega | exact sbv_5) hM11 (fun M12 hM12 => (Fr.m (fX3_prepare (by first | omega | exact sbv_5) hM12) (fun M16 _ hM16 => (Fr.ok hM16)))))))))))
theorem fX6_makeStep {k0 : Nat} {x1 : Int32} {M : Mem} (hM : KS SA M0 M) : Fr SA M0 (mX6_makeStep k0 x1 M) := by
  unfold mX6_makeStep
  exact (Fr.m (fX6_costNow hM) (fun M3 r2 hM3 => (Fr.m (fX0_remember (by first | omega | exact sbv_5) hM3) (fun M6 _ hM6 => (Fr.m (fX6_gaugeNow hM6) (fun M9 r8 hM9 => (Fr.m (fX1_addStep (by first | omega | exact sbv_5) hM9) (fun M12 _ hM12 => (Fr.ok hM12)))))))))
theorem fX6_fold {k0 : Nat} {x1 : Int32} {x2 : Int32} {M : Mem} (hM : KS SA M0 M) : Fr SA M0 (mX6_fold k0 x1 x2 M) := by
  unfold mX6_fold
  exact (Fr.x (fX6_requireStep hM) (fun M3 _ hM3 => (Fr.m (fX6_reasonNow hM3) (fun M7 r6 hM7 => (Fr.i (Fr.m (fX6_makeStep hM7) (fun M11 r10 hM11 => (Fr.ok hM11))) (Fr.ok hM7))))))
theorem fX6_foldNext {k0 : Nat} {M : Mem} (hM : KS SA M0 M) : Fr SA M0 (mX6_foldNext k0 M) := by
  unfold mX6_foldNext
  exact (Fr.m (fX3_prepare (by first | omega | exact sbv_5) hM) (fun M3 _ hM3 => (Fr.i (Fr.k (Fr.b (fun x1_42 => (Fr.m (fX6_makeStep hM3) (fun M9 r8 hM9 => (Fr.ok hM9)))))) (Fr.ok hM3))))
theorem fX6_unfold {k0 : Nat} {M : Mem} (hM : KS SA M0 M) : Fr SA M0 (mX6_unfold k0 M) := by
  unfold mX6_unfold
  exact (Fr.m (fX0_remember (by first | omega | exact sbv_5) hM) (fun M3 _ hM3 => (Fr.b (fun x1_18 => (Fr.m (fX1_dropSteps (by first | omega | exact sbv_5) hM3) (fun M7 _ hM7 => (Fr.ok hM7)))))))
theorem fX6_setLeg {k0 : Nat} {x1 : Int32} {x2 : Int32} {M : Mem} (hM : KS SA M0 M) : Fr SA M0 (mX6_setLeg k0 x1 x2 M) := by
  unfold mX6_setLeg
  exact (Fr.x (fX6_requireLeg hM) (fun M3 _ hM3 => (Fr.c (fun r6 => (Fr.i (Fr.ok hM3) (Fr.x (fX6_requireFlat hM3) (fun M11 _ hM11 => (Fr.m (fX0_remember (by first | omega | exact sbv_5) hM11) (fun M15 _ hM15 => (Fr.k (Fr.b (fun x3_51 => (Fr.k (Fr.bw (show 5 ≤ _ by first | omega | exact sbv_5) hM15 (fun M20 hM20 => (Fr.ok hM20))))))))))))))))
theorem fX6_setDirection {k0 : Nat} {x1 : Int32} {x2 : Int32} {M : Mem} (hM : KS SA M0 M) : Fr SA M0 (mX6_setDirection k0 x1 x2 M) := by
  unfold mX6_setDirection
  exact (Fr.x (fX6_requireBend hM) (fun M3 _ hM3 => (Fr.x (fX6_requireFlat hM3) (fun M7 _ hM7 => (Fr.m (fX0_remember (by first | omega | exact sbv_5) hM7) (fun M11 _ hM11 => (Fr.c (fun r13 => (Fr.i (Fr.k (Fr.ok hM11)) (Fr.bw (show 5 ≤ _ by first | omega | exact sbv_5) hM11 (fun M17 hM17 => (Fr.k (Fr.ok hM17)))))))))))))
theorem fX6_setTool_b32 {k0 : Nat} {M : Mem} (hM : KS SA M0 M) : Fr SA M0 (mX6_setTool_b32 k0 M) := by
  unfold mX6_setTool_b32
  exact (Fr.ok hM)
theorem fX6_setTool {k0 : Nat} {x1 : Int32} {x2 : Int32} {x3 : Int32} {M : Mem} (hM : KS SA M0 M) : Fr SA M0 (mX6_setTool k0 x1 x2 x3 M) := by
  unfold mX6_setTool
  exact (Fr.c (fun r2 => (Fr.o (fX6_setTool_b32 hM) (fun w4 => (Fr.k (Fr.c (fun r7 => (Fr.i (fX6_setTool_b32 hM) (Fr.c (fun r11 => (Fr.i (fX6_setTool_b32 hM) (Fr.m (fX0_remember (by first | omega | exact sbv_5) hM) (fun M16 _ hM16 => (Fr.k (Fr.b (fun x5_65 => (Fr.m (fX1_putTool (by first | omega | exact sbv_5) hM16) (fun M21 _ hM21 => (Fr.ok hM21)))))))))))))))))))
theorem fX6_setSheet_b33 {k0 : Nat} {M : Mem} (hM : KS SA M0 M) : Fr SA M0 (mX6_setSheet_b33 k0 M) := by
  unfold mX6_setSheet_b33
  exact (Fr.ok hM)
theorem fX6_setSheet {k0 : Nat} {x1 : Int32} {x2 : Int32} {x3 : Int32} {M : Mem} (hM : KS SA M0 M) : Fr SA M0 (mX6_setSheet k0 x1 x2 x3 M) := by
  unfold mX6_setSheet
  exact (Fr.c (fun r2 => (Fr.i (fX6_setSheet_b33 hM) (Fr.c (fun r6 => (Fr.i (fX6_setSheet_b33 hM) (Fr.c (fun r10 => (Fr.i (fX6_setSheet_b33 hM) (Fr.m (fX0_remember (by first | omega | exact sbv_5) hM) (fun M15 _ hM15 => (Fr.b (fun x4_62 => (Fr.m (fX1_putSheet (by first | omega | exact sbv_5) hM15) (fun M19 _ hM19 => (Fr.ok hM19))))))))))))))))
theorem fX6_setCost_b33 {k0 : Nat} {M : Mem} (hM : KS SA M0 M) : Fr SA M0 (mX6_setCost_b33 k0 M) := by
  unfold mX6_setCost_b33
  exact (Fr.ok hM)
theorem fX6_setCost {k0 : Nat} {x1 : Int32} {x2 : Int32} {x3 : Int32} {M : Mem} (hM : KS SA M0 M) : Fr SA M0 (mX6_setCost k0 x1 x2 x3 M) := by
  unfold mX6_setCost
  exact (Fr.c (fun r2 => (Fr.i (fX6_setCost_b33 hM) (Fr.c (fun r6 => (Fr.i (fX6_setCost_b33 hM) (Fr.c (fun r10 => (Fr.i (fX6_setCost_b33 hM) (Fr.m (fX0_remember (by first | omega | exact sbv_5) hM) (fun M15 _ hM15 => (Fr.b (fun x4_62 => (Fr.m (fX1_putCosts (by first | omega | exact sbv_5) hM15) (fun M19 _ hM19 => (Fr.ok hM19))))))))))))))))
theorem fX6_undo {k0 : Nat} {M : Mem} (hM : KS SA M0 M) : Fr SA M0 (mX6_undo k0 M) := by
  unfold mX6_undo
  exact (Fr.m (fX0_takeBack (by first | omega | exact sbv_5) (by first | omega | exact sbv_5) hM) (fun M3 r2 hM3 => (Fr.i (Fr.ok hM3) (Fr.ok hM3))))
theorem fJ6_getChars_ba4f3_b104 {k0 : Nat} {n0 : Nat} {x5 : Int32} {x6 : Int32} {M : Mem} (wk0 : 5 ≤ k0) (hM : KS SA M0 M) : Fr SA M0 (mJ6_getChars_ba4f3_b104 k0 n0 x5 x6 M) := by
  unfold mJ6_getChars_ba4f3_b104
  exact (Fr.i (Fr.ok hM) (Fr.b (fun x5_110 => (Fr.k (Fr.bw (show 5 ≤ _ by first | omega | exact sbv_5) hM (fun M14 hM14 => (Fr.ok hM14)))))))
theorem fJ6_getChars_ba4f3_b22 {k0 : Nat} {n0 : Nat} {ih22 : Int32 → Int32 → Int32 → Mem → Option (Mem × Int32)} {x0 : Int32} {x5 : Int32} {x6 : Int32} {M : Mem} (wk0 : 5 ≤ k0) (hih22 : ∀ (v0 : Int32) (v1 : Int32) (v2 : Int32) (v3 : Mem), KS SA M0 v3 → Fr SA M0 (ih22 v0 v1 v2 v3)) (hM : KS SA M0 M) : Fr SA M0 (mJ6_getChars_ba4f3_b22 k0 n0 ih22 x0 x5 x6 M) := by
  unfold mJ6_getChars_ba4f3_b22
  exact (Fr.i (Fr.b (fun x5_73 => (Fr.k (Fr.k (Fr.bw (show 5 ≤ _ by first | omega | exact sbv_5) hM (fun M8 hM8 => (Fr.i (fJ6_getChars_ba4f3_b104 (by first | omega | exact sbv_5) hM8) (Fr.b (fun x5_92 => (Fr.k (Fr.k (Fr.bw (show 5 ≤ _ by first | omega | exact sbv_5) hM8 (fun M19 hM19 => (fJ6_getChars_ba4f3_b104 (by first | omega | exact sbv_5) hM19)))))))))))))) (Fr.b (fun x3_32 => (Fr.b (fun x4_39 => (Fr.b (fun x5_44 => (Fr.k (Fr.k (Fr.bw (show 5 ≤ _ by first | omega | exact sbv_5) hM (fun M26 hM26 => (Fr.b (fun x5_57 => (Fr.k (Fr.k (Fr.bw (show 5 ≤ _ by first | omega | exact sbv_5) hM26 (fun M31 hM31 => (hih22 _ _ _ _ hM31))))))))))))))))))
theorem fJ6_getChars_ba4f3_l22_n {k0 : Nat} {n0 : Nat} (wk0 : 5 ≤ k0) : ∀ (n : Nat) (v0 : Int32) (v1 : Int32) (v2 : Int32) (v3 : Mem), KS SA M0 v3 → Fr SA M0 (mJ6_getChars_ba4f3_l22 k0 n0 n v0 v1 v2 v3) := by
  intro n
  induction n with
  | zero => intro v0 v1 v2 v3 h; exact Fr.n
  | succ n IH => intro v0 v1 v2 v3 h; exact fJ6_getChars_ba4f3_b22 (by omega) IH h
theorem fJ6_getChars_ba4f3_l22 {k0 : Nat} {n0 : Nat} {v0 : Int32} {v1 : Int32} {v2 : Int32} {v3 : Mem} (wk0 : 5 ≤ k0) {n : Nat} (h : KS SA M0 v3) : Fr SA M0 (mJ6_getChars_ba4f3_l22 k0 n0 n v0 v1 v2 v3) := fJ6_getChars_ba4f3_l22_n wk0  n v0 v1 v2 v3 h
theorem fJ6_getChars_ba4f3_b12 {k0 : Nat} {n0 : Nat} {x0 : Int32} {x5 : Int32} {y0 : Int32} {M : Mem} (wk0 : 5 ≤ k0) (hM : KS SA M0 M) : Fr SA M0 (mJ6_getChars_ba4f3_b12 k0 n0 x0 x5 y0 M) := by
  unfold mJ6_getChars_ba4f3_b12
  exact (Fr.i (Fr.b (fun x0_21 => (fJ6_getChars_ba4f3_l22 (by first | omega | exact sbv_5) hM))) (fJ6_getChars_ba4f3_l22 (by first | omega | exact sbv_5) hM))
theorem fJ6_getChars_ba4f3 {k0 : Nat} {n0 : Nat} {x0 : Int32} {x1 : Int32} {M : Mem} (wk0 : 5 ≤ k0) (hM : KS SA M0 M) : Fr SA M0 (mJ6_getChars_ba4f3 k0 n0 x0 x1 M) := by
  unfold mJ6_getChars_ba4f3
  exact (Fr.i (fJ6_getChars_ba4f3_b12 (by first | omega | exact sbv_5) hM) (fJ6_getChars_ba4f3_b12 (by first | omega | exact sbv_5) hM))
theorem ks_zr {k : Nat} {M : Mem} (h : KS SA M0 M) (hk : 5 ≤ k) : KS SA M0 (zr M k) := fun k' j' q => by
  have e : k' ≠ k := fun e => q (by show 5 ≤ k'; omega)
  rw [← h k' j' q]
  show (if k' = k then (fun _ => 0) else M.1 k') j' = M.1 k' j'
  rw [if_neg e]
theorem fJ5_ensureCapacityInternal_d00df {x1 : Int32} {M : Mem} (hM : KS SA M0 M) : Fr SA M0 (mJ5_ensureCapacityInternal_d00df x1 M) := by
  unfold mJ5_ensureCapacityInternal_d00df
  refine Fr.b (fun x2_10 => Fr.i (Fr.ok hM) (Fr.c (fun r6 => Fr.k (Fr.bw (show 5 ≤ _ by omega) ?_ (fun M9 h9 => Fr.ok h9)))))
  exact (ks_zr hM sbv_5).cp (fun _ => sbv_5)
theorem ks_cpS {a b c : Nat} {M : Mem} (h : KS SA M0 M) (hk : 5 ≤ b) : KS SA M0 (cpS M a b c) := fun k' j' q => by
  have e : k' ≠ b := fun e => q (by show 5 ≤ k'; omega)
  rw [← h k' j' q]
  exact congrFun (cpS_o (M := M) (i := a) (b := b) (dp := c) k' e).1 j'
theorem fJ0_getBytes_840e7 {k0 : Nat} {k1 : Nat} {n1 : Nat} {x2 : Int32} {x3 : Int32} {M : Mem} (wk1 : 5 ≤ k1) (hM : KS SA M0 M) : Fr SA M0 (mJ0_getBytes_840e7 k0 k1 n1 x2 x3 M) := by
  unfold mJ0_getBytes_840e7
  exact Fr.c (fun r2 => Fr.i (Fr.k (show Fr SA M0 (some (_, ())) from Fr.ok (ks_cpS hM wk1))) Fr.n)
theorem fJ5_putStringAt_47b60 {k0 : Nat} {x1 : Int32} {M : Mem} (hM : KS SA M0 M) : Fr SA M0 (mJ5_putStringAt_47b60 k0 x1 M) := by
  unfold mJ5_putStringAt_47b60
  exact (Fr.c (fun r2 => (Fr.m (fJ0_getBytes_840e7 (by first | omega | exact sbv_5) hM) (fun M7 _ hM7 => (Fr.ok hM7)))))
theorem fJ5_append_3fe6f_b45 {g : Int32} {x1 : Int32} {M : Mem} (hM : KS SA M0 M) : Fr SA M0 (mJ5_append_3fe6f_b45 g x1 M) := by
  unfold mJ5_append_3fe6f_b45
  exact (Fr.k (Fr.c (fun r10 => (Fr.i (Fr.k (Fr.bw (show 5 ≤ _ by first | omega | exact sbv_5) hM (fun M14 hM14 => Fr.n))) Fr.n))))
theorem fJ5_append_3fe6f {x1 : Int32} {M : Mem} (hM : KS SA M0 M) : Fr SA M0 (mJ5_append_3fe6f x1 M) := by
  unfold mJ5_append_3fe6f
  exact (Fr.m (fJ5_ensureCapacityInternal_d00df hM) (fun M3 _ hM3 => (Fr.c (fun r5 => (Fr.i (fJ5_append_3fe6f_b45 hM3) (Fr.c (fun r17 => (Fr.i (fJ5_append_3fe6f_b45 hM3) (Fr.bw (show 5 ≤ _ by first | omega | exact sbv_5) hM3 (fun M21 hM21 => (Fr.k (Fr.bw (show 5 ≤ _ by first | omega | exact sbv_5) hM21 (fun M25 hM25 => (Fr.k (Fr.ok hM25)))))))))))))))
theorem fJ5_append_c97b9 {x1 : Int32} {M : Mem} (hM : KS SA M0 M) : Fr SA M0 (mJ5_append_c97b9 x1 M) := by
  unfold mJ5_append_c97b9
  exact (Fr.b (fun x2_4 => (Fr.c (fun r3 => (Fr.b (fun x3_11 => (Fr.m (fJ5_ensureCapacityInternal_d00df hM) (fun M8 _ hM8 => (Fr.c (fun r10 => (Fr.i Fr.n (Fr.m (fJ6_getChars_ba4f3 (by first | omega | exact sbv_5) hM8) (fun M17 r16 hM17 => (Fr.bw (show 5 ≤ _ by first | omega | exact sbv_5) hM17 (fun M18 hM18 => (Fr.k (Fr.ok hM18)))))))))))))))))
theorem fJ5_append_cf1ce {k0 : Nat} {M : Mem} (hM : KS SA M0 M) : Fr SA M0 (mJ5_append_cf1ce k0 M) := by
  unfold mJ5_append_cf1ce
  exact (Fr.c (fun r2 => (Fr.m (fJ5_ensureCapacityInternal_d00df hM) (fun M6 _ hM6 => (Fr.m (fJ5_putStringAt_47b60 hM6) (fun M9 _ hM9 => (Fr.bw (show 5 ≤ _ by first | omega | exact sbv_5) hM9 (fun M10 hM10 => (Fr.k (Fr.ok hM10))))))))))
theorem fJ4_append_cf468 {x1 : Int32} {M : Mem} (hM : KS SA M0 M) : Fr SA M0 (mJ4_append_cf468 x1 M) := by
  unfold mJ4_append_cf468
  exact (Fr.m (fJ5_append_3fe6f hM) (fun M3 _ hM3 => (Fr.ok hM3)))
theorem fJ4_append_bf812 {x1 : Int32} {M : Mem} (hM : KS SA M0 M) : Fr SA M0 (mJ4_append_bf812 x1 M) := by
  unfold mJ4_append_bf812
  exact (Fr.m (fJ5_append_c97b9 hM) (fun M3 _ hM3 => (Fr.ok hM3)))
theorem fJ4_append_15ec4 {k0 : Nat} {M : Mem} (hM : KS SA M0 M) : Fr SA M0 (mJ4_append_15ec4 k0 M) := by
  unfold mJ4_append_15ec4
  exact (Fr.m (fJ5_append_cf1ce hM) (fun M3 _ hM3 => (Fr.ok hM3)))
theorem fJ5_setLength_d00df {x1 : Int32} {M : Mem} (hM : KS SA M0 M) : Fr SA M0 (mJ5_setLength_d00df x1 M) := by
  unfold mJ5_setLength_d00df
  exact (Fr.i (Fr.m (fJ5_ensureCapacityInternal_d00df hM) (fun M4 _ hM4 => (Fr.i (Fr.i (Fr.bw (show 5 ≤ _ by first | omega | exact sbv_5) hM4 (fun M7 hM7 => (Fr.k (Fr.ok hM7)))) (Fr.bw (show 5 ≤ _ by first | omega | exact sbv_5) hM4 (fun M10 hM10 => (Fr.bw (show 5 ≤ _ by first | omega | exact sbv_5) hM10 (fun M12 hM12 => (Fr.k (Fr.ok hM12))))))) (Fr.c (fun r16 => (Fr.i Fr.n Fr.n)))))) Fr.n)
theorem fJ4_setLength_d00df {x1 : Int32} {M : Mem} (hM : KS SA M0 M) : Fr SA M0 (mJ4_setLength_d00df x1 M) := by
  unfold mJ4_setLength_d00df
  exact (Fr.m (fJ5_setLength_d00df hM) (fun M3 _ hM3 => (Fr.ok hM3)))
theorem fX6_writeBend_b22 {k0 : Nat} {g : Int32} {x1 : Int32} {y1 : Int32} {M : Mem} (hM : KS SA M0 M) : Fr SA M0 (mX6_writeBend_b22 k0 g x1 y1 M) := by
  unfold mX6_writeBend_b22
  exact (Fr.k (Fr.m (fJ4_append_cf468 hM) (fun M8 _ hM8 => (Fr.i (Fr.ok hM8) (Fr.m (fJ4_append_cf468 hM8) (fun M12 _ hM12 => (Fr.ok hM12)))))))
theorem fX6_writeBend {k0 : Nat} {x1 : Int32} {M : Mem} (hM : KS SA M0 M) : Fr SA M0 (mX6_writeBend k0 x1 M) := by
  unfold mX6_writeBend
  exact (Fr.c (fun r2 => (Fr.i (fX6_writeBend_b22 hM) (fX6_writeBend_b22 hM))))
theorem fX6_write_b97 {k0 : Nat} {g : Int32} {M : Mem} (hM : KS SA M0 M) : Fr SA M0 (mX6_write_b97 k0 g M) := by
  unfold mX6_write_b97
  exact (Fr.k (Fr.c (fun r8 => (Fr.k (Fr.ok hM)))))
theorem fX6_write_b61 {k0 : Nat} {g : Int32} {M : Mem} (hM : KS SA M0 M) : Fr SA M0 (mX6_write_b61 k0 g M) := by
  unfold mX6_write_b61
  exact (Fr.i (fX6_write_b97 hM) (Fr.k (Fr.m (fJ4_append_15ec4 hM) (fun M14 _ hM14 => (Fr.c (fun r16 => (Fr.m (fJ4_append_bf812 hM14) (fun M20 _ hM20 => (fX6_write_b97 hM20)))))))))
theorem fX6_write_b38 {k0 : Nat} {g : Int32} {ih10 : Int32 → Int32 → Mem → Option (Mem × Int32)} {x1 : Int32} {M : Mem} (hih10 : ∀ (v0 : Int32) (v1 : Int32) (v2 : Mem), KS SA M0 v2 → Fr SA M0 (ih10 v0 v1 v2)) (hM : KS SA M0 M) : Fr SA M0 (mX6_write_b38 k0 g ih10 x1 M) := by
  unfold mX6_write_b38
  exact (Fr.k (Fr.k (Fr.m (fJ4_append_bf812 hM) (fun M27 _ hM27 => (Fr.b (fun x1_55 => (hih10 _ _ _ hM27)))))))
theorem fX6_write_b10 {k0 : Nat} {g : Int32} {ih10 : Int32 → Int32 → Mem → Option (Mem × Int32)} {x1 : Int32} {M : Mem} (hih10 : ∀ (v0 : Int32) (v1 : Int32) (v2 : Mem), KS SA M0 v2 → Fr SA M0 (ih10 v0 v1 v2)) (hM : KS SA M0 M) : Fr SA M0 (mX6_write_b10 k0 g ih10 x1 M) := by
  unfold mX6_write_b10
  exact (Fr.k (Fr.i (fX6_write_b61 hM) (Fr.i (fX6_write_b61 hM) (Fr.i (fX6_write_b38 hih10 hM) (Fr.k (Fr.m (fX6_writeBend hM) (fun M32 _ hM32 => (fX6_write_b38 hih10 hM32))))))))
theorem fX6_write_l10_n {k0 : Nat} : ∀ (n : Nat) (v0 : Int32) (v1 : Int32) (v2 : Mem), KS SA M0 v2 → Fr SA M0 (mX6_write_l10 k0 n v0 v1 v2) := by
  intro n
  induction n with
  | zero => intro v0 v1 v2 h; exact Fr.n
  | succ n IH => intro v0 v1 v2 h; exact fX6_write_b10 IH h
theorem fX6_write_l10 {k0 : Nat} {v0 : Int32} {v1 : Int32} {v2 : Mem} {n : Nat} (h : KS SA M0 v2) : Fr SA M0 (mX6_write_l10 k0 n v0 v1 v2) := fX6_write_l10_n n v0 v1 v2 h
theorem fX6_write {k0 : Nat} {M : Mem} (hM : KS SA M0 M) : Fr SA M0 (mX6_write k0 M) := by
  unfold mX6_write
  exact (Fr.m (fJ4_setLength_d00df hM) (fun M3 _ hM3 => (fX6_write_l10 hM3)))
theorem fX6_written_b15 {k0 : Nat} {g : Int32} {M : Mem} (hM : KS SA M0 M) : Fr SA M0 (mX6_written_b15 k0 g M) := by
  unfold mX6_written_b15
  exact (Fr.ok hM)
theorem fX6_written {k0 : Nat} {x1 : Int32} {M : Mem} (hM : KS SA M0 M) : Fr SA M0 (mX6_written k0 x1 M) := by
  unfold mX6_written
  exact (Fr.i (fX6_written_b15 hM) (Fr.c (fun r3 => (Fr.i (Fr.c (fun r7 => (Fr.k (Fr.ok hM)))) (fX6_written_b15 hM)))))
theorem fL_leg {k0 : Nat} {k1 : Nat} {x1 : Int32} {M : Mem} (wk1 : 5 ≤ k1) (hM : KS SA M0 M) : Fr SA M0 (mL_leg k0 k1 x1 M) := by
  unfold mL_leg
  exact (Fr.t (fX6_leg hM) (fun M3 r2 hM3 => (Fr.k (Fr.bl hM3 (fun M7 hM7 => (Fr.ok hM7))))) (fun M3 e4 hM3 => (Fr.i (Fr.ok hM3) Fr.n)))
theorem fL_isUp_b15 {k0 : Nat} {k1 : Nat} {y1 : Int32} {y2 : Int64} {M : Mem} (wk1 : 5 ≤ k1) (hM : KS SA M0 M) : Fr SA M0 (mL_isUp_b15 k0 k1 y1 y2 M) := by
  unfold mL_isUp_b15
  exact (Fr.k (Fr.bl hM (fun M8 hM8 => (Fr.ok hM8))))
theorem fL_isUp {k0 : Nat} {k1 : Nat} {x1 : Int32} {M : Mem} (wk1 : 5 ≤ k1) (hM : KS SA M0 M) : Fr SA M0 (mL_isUp k0 k1 x1 M) := by
  unfold mL_isUp
  exact (Fr.t (fX6_isUp hM) (fun M3 r2 hM3 => (Fr.i (fL_isUp_b15 (by first | omega | exact sbv_5) hM3) (fL_isUp_b15 (by first | omega | exact sbv_5) hM3))) (fun M3 e4 hM3 => (Fr.i (Fr.ok hM3) Fr.n)))
theorem fL_linePlace {k0 : Nat} {k1 : Nat} {x1 : Int32} {M : Mem} (wk1 : 5 ≤ k1) (hM : KS SA M0 M) : Fr SA M0 (mL_linePlace k0 k1 x1 M) := by
  unfold mL_linePlace
  exact (Fr.t (fX6_linePlace hM) (fun M3 r2 hM3 => (Fr.k (Fr.bd hM3 (fun M7 hM7 => (Fr.ok hM7))))) (fun M3 e4 hM3 => (Fr.i (Fr.ok hM3) Fr.n)))
theorem fL_springBackFor {k0 : Nat} {k1 : Nat} {x1 : UInt64} {M : Mem} (wk1 : 5 ≤ k1) (hM : KS SA M0 M) : Fr SA M0 (mL_springBackFor k0 k1 x1 M) := by
  unfold mL_springBackFor
  exact (Fr.t (fX6_springBackFor hM) (fun M3 r2 hM3 => (Fr.k (Fr.bd hM3 (fun M7 hM7 => (Fr.ok hM7))))) (fun M3 e4 hM3 => (Fr.i (Fr.ok hM3) Fr.n)))
theorem fL_tool {k0 : Nat} {k1 : Nat} {x1 : Int32} {x2 : Int32} {M : Mem} (wk1 : 5 ≤ k1) (hM : KS SA M0 M) : Fr SA M0 (mL_tool k0 k1 x1 x2 M) := by
  unfold mL_tool
  exact (Fr.t (fX6_tool hM) (fun M3 r2 hM3 => (Fr.k (Fr.bl hM3 (fun M7 hM7 => (Fr.ok hM7))))) (fun M3 e4 hM3 => (Fr.i (Fr.ok hM3) Fr.n)))
theorem fL_finishedCorner {k0 : Nat} {k1 : Nat} {x1 : Int32} {x2 : Int32} {M : Mem} (wk1 : 5 ≤ k1) (hM : KS SA M0 M) : Fr SA M0 (mL_finishedCorner k0 k1 x1 x2 M) := by
  unfold mL_finishedCorner
  exact (Fr.t (fX6_finishedCorner hM) (fun M3 r2 hM3 => (Fr.k (Fr.bl hM3 (fun M7 hM7 => (Fr.ok hM7))))) (fun M3 e4 hM3 => (Fr.i (Fr.ok hM3) (Fr.i (Fr.ok hM3) Fr.n))))
theorem fL_step {k0 : Nat} {k1 : Nat} {x1 : Int32} {x2 : Int32} {M : Mem} (wk1 : 5 ≤ k1) (hM : KS SA M0 M) : Fr SA M0 (mL_step k0 k1 x1 x2 M) := by
  unfold mL_step
  exact (Fr.t (fX6_step hM) (fun M3 r2 hM3 => (Fr.k (Fr.bl hM3 (fun M7 hM7 => (Fr.ok hM7))))) (fun M3 e4 hM3 => (Fr.i (Fr.ok hM3) (Fr.i (Fr.ok hM3) Fr.n))))
theorem fL_reason {k0 : Nat} {k1 : Nat} {x1 : Int32} {x2 : Int32} {M : Mem} (wk1 : 5 ≤ k1) (hM : KS SA M0 M) : Fr SA M0 (mL_reason k0 k1 x1 x2 M) := by
  unfold mL_reason
  exact (Fr.t (fX6_reason hM) (fun M3 r2 hM3 => (Fr.k (Fr.bl hM3 (fun M7 hM7 => (Fr.ok hM7))))) (fun M3 e4 hM3 => (Fr.i (Fr.ok hM3) (Fr.i (Fr.ok hM3) Fr.n))))
theorem fL_gauge {k0 : Nat} {k1 : Nat} {x1 : Int32} {x2 : Int32} {M : Mem} (wk1 : 5 ≤ k1) (hM : KS SA M0 M) : Fr SA M0 (mL_gauge k0 k1 x1 x2 M) := by
  unfold mL_gauge
  exact (Fr.t (fX6_gauge hM) (fun M3 r2 hM3 => (Fr.k (Fr.bl hM3 (fun M7 hM7 => (Fr.ok hM7))))) (fun M3 e4 hM3 => (Fr.i (Fr.ok hM3) (Fr.i (Fr.ok hM3) Fr.n))))
theorem fL_corner {k0 : Nat} {k1 : Nat} {x1 : Int32} {x2 : Int32} {x3 : Int32} {x4 : Int32} {M : Mem} (wk1 : 5 ≤ k1) (hM : KS SA M0 M) : Fr SA M0 (mL_corner k0 k1 x1 x2 x3 x4 M) := by
  unfold mL_corner
  exact (Fr.t (fX6_corner hM) (fun M3 r2 hM3 => (Fr.k (Fr.bl hM3 (fun M7 hM7 => (Fr.ok hM7))))) (fun M3 e4 hM3 => (Fr.i (Fr.ok hM3) (Fr.i (Fr.ok hM3) Fr.n))))
theorem fL_top {k0 : Nat} {k1 : Nat} {x1 : Int32} {x2 : Int32} {M : Mem} (wk1 : 5 ≤ k1) (hM : KS SA M0 M) : Fr SA M0 (mL_top k0 k1 x1 x2 M) := by
  unfold mL_top
  exact (Fr.t (fX6_top hM) (fun M3 r2 hM3 => (Fr.k (Fr.bl hM3 (fun M7 hM7 => (Fr.ok hM7))))) (fun M3 e4 hM3 => (Fr.i (Fr.ok hM3) (Fr.i (Fr.ok hM3) Fr.n))))
theorem fL_hitting {k0 : Nat} {k1 : Nat} {x1 : Int32} {x2 : Int32} {M : Mem} (wk1 : 5 ≤ k1) (hM : KS SA M0 M) : Fr SA M0 (mL_hitting k0 k1 x1 x2 M) := by
  unfold mL_hitting
  exact (Fr.t (fX6_hitting hM) (fun M3 r2 hM3 => (Fr.k (Fr.bl hM3 (fun M7 hM7 => (Fr.ok hM7))))) (fun M3 e4 hM3 => (Fr.i (Fr.ok hM3) (Fr.i (Fr.ok hM3) Fr.n))))
theorem fL_refused {k0 : Nat} {k1 : Nat} {x1 : Int32} {M : Mem} (wk1 : 5 ≤ k1) (hM : KS SA M0 M) : Fr SA M0 (mL_refused k0 k1 x1 M) := by
  unfold mL_refused
  exact (Fr.t (fX6_refused hM) (fun M3 r2 hM3 => (Fr.k (Fr.bl hM3 (fun M7 hM7 => (Fr.ok hM7))))) (fun M3 e4 hM3 => (Fr.i (Fr.ok hM3) Fr.n)))
theorem fL_costOf {k0 : Nat} {k1 : Nat} {x1 : Int32} {x2 : Int32} {M : Mem} (wk1 : 5 ≤ k1) (hM : KS SA M0 M) : Fr SA M0 (mL_costOf k0 k1 x1 x2 M) := by
  unfold mL_costOf
  exact (Fr.t (fX6_costOf hM) (fun M3 r2 hM3 => (Fr.k (Fr.bl hM3 (fun M7 hM7 => (Fr.ok hM7))))) (fun M3 e4 hM3 => (Fr.i (Fr.ok hM3) (Fr.i (Fr.ok hM3) Fr.n))))
theorem fL_planned {k0 : Nat} {k1 : Nat} {x1 : Int32} {M : Mem} (wk1 : 5 ≤ k1) (hM : KS SA M0 M) : Fr SA M0 (mL_planned k0 k1 x1 M) := by
  unfold mL_planned
  exact (Fr.t (fX6_planned hM) (fun M3 r2 hM3 => (Fr.k (Fr.bl hM3 (fun M7 hM7 => (Fr.ok hM7))))) (fun M3 e4 hM3 => (Fr.i (Fr.ok hM3) Fr.n)))
theorem fL_ordersWith {k0 : Nat} {k1 : Nat} {x1 : Int32} {x2 : Int32} {M : Mem} (wk1 : 5 ≤ k1) (hM : KS SA M0 M) : Fr SA M0 (mL_ordersWith k0 k1 x1 x2 M) := by
  unfold mL_ordersWith
  exact (Fr.t (fX6_ordersWith hM) (fun M3 r2 hM3 => (Fr.k (Fr.bl hM3 (fun M7 hM7 => (Fr.ok hM7))))) (fun M3 e4 hM3 => (Fr.i (Fr.ok hM3) (Fr.i (Fr.ok hM3) Fr.n))))
theorem fL_costIfTurned {k0 : Nat} {k1 : Nat} {x1 : Int32} {M : Mem} (wk1 : 5 ≤ k1) (hM : KS SA M0 M) : Fr SA M0 (mL_costIfTurned k0 k1 x1 M) := by
  unfold mL_costIfTurned
  exact (Fr.t (fX6_costIfTurned hM) (fun M3 r2 hM3 => (Fr.k (Fr.bl hM3 (fun M7 hM7 => (Fr.ok hM7))))) (fun M3 e4 hM3 => (Fr.i (Fr.ok hM3) (Fr.i (Fr.ok hM3) Fr.n))))
theorem fL_fold {k0 : Nat} {k1 : Nat} {x1 : Int32} {x2 : Int32} {M : Mem} (wk1 : 5 ≤ k1) (hM : KS SA M0 M) : Fr SA M0 (mL_fold k0 k1 x1 x2 M) := by
  unfold mL_fold
  exact (Fr.t (fX6_fold hM) (fun M3 r2 hM3 => (Fr.k (Fr.bl hM3 (fun M7 hM7 => (Fr.ok hM7))))) (fun M3 e4 hM3 => (Fr.i (Fr.ok hM3) (Fr.i (Fr.ok hM3) (Fr.i (Fr.ok hM3) Fr.n)))))
theorem fL_foldNext {k0 : Nat} {k1 : Nat} {M : Mem} (wk1 : 5 ≤ k1) (hM : KS SA M0 M) : Fr SA M0 (mL_foldNext k0 k1 M) := by
  unfold mL_foldNext
  exact (Fr.t (fX6_foldNext hM) (fun M3 r2 hM3 => (Fr.k (Fr.bl hM3 (fun M7 hM7 => (Fr.ok hM7))))) (fun M3 e4 hM3 => (Fr.i (Fr.ok hM3) Fr.n)))
theorem fL_setLeg {k0 : Nat} {k1 : Nat} {x1 : Int32} {x2 : Int32} {M : Mem} (wk1 : 5 ≤ k1) (hM : KS SA M0 M) : Fr SA M0 (mL_setLeg k0 k1 x1 x2 M) := by
  unfold mL_setLeg
  exact (Fr.t (fX6_setLeg hM) (fun M3 r2 hM3 => (Fr.k (Fr.bl hM3 (fun M7 hM7 => (Fr.ok hM7))))) (fun M3 e4 hM3 => (Fr.i (Fr.ok hM3) (Fr.i (Fr.ok hM3) (Fr.i (Fr.ok hM3) Fr.n)))))
theorem fL_setDirection_b16 {k0 : Nat} {k1 : Nat} {y1 : Int32} {y2 : Int64} {M : Mem} (wk1 : 5 ≤ k1) (hM : KS SA M0 M) : Fr SA M0 (mL_setDirection_b16 k0 k1 y1 y2 M) := by
  unfold mL_setDirection_b16
  exact (Fr.k (Fr.bl hM (fun M8 hM8 => (Fr.ok hM8))))
theorem fL_setDirection {k0 : Nat} {k1 : Nat} {x1 : Int32} {x2 : Int32} {M : Mem} (wk1 : 5 ≤ k1) (hM : KS SA M0 M) : Fr SA M0 (mL_setDirection k0 k1 x1 x2 M) := by
  unfold mL_setDirection
  exact (Fr.t (fX6_setDirection hM) (fun M3 r2 hM3 => (Fr.i (fL_setDirection_b16 (by first | omega | exact sbv_5) hM3) (fL_setDirection_b16 (by first | omega | exact sbv_5) hM3))) (fun M3 e4 hM3 => (Fr.i (Fr.ok hM3) (Fr.i (Fr.ok hM3) Fr.n))))
theorem fL_setTool {k0 : Nat} {k1 : Nat} {x1 : Int32} {x2 : Int32} {x3 : Int32} {M : Mem} (wk1 : 5 ≤ k1) (hM : KS SA M0 M) : Fr SA M0 (mL_setTool k0 k1 x1 x2 x3 M) := by
  unfold mL_setTool
  exact (Fr.t (fX6_setTool hM) (fun M3 r2 hM3 => (Fr.k (Fr.bl hM3 (fun M7 hM7 => (Fr.ok hM7))))) (fun M3 e4 hM3 => (Fr.i (Fr.ok hM3) Fr.n)))
theorem fL_setSheet {k0 : Nat} {k1 : Nat} {x1 : Int32} {x2 : Int32} {x3 : Int32} {M : Mem} (wk1 : 5 ≤ k1) (hM : KS SA M0 M) : Fr SA M0 (mL_setSheet k0 k1 x1 x2 x3 M) := by
  unfold mL_setSheet
  exact (Fr.t (fX6_setSheet hM) (fun M3 r2 hM3 => (Fr.k (Fr.bl hM3 (fun M7 hM7 => (Fr.ok hM7))))) (fun M3 e4 hM3 => (Fr.i (Fr.ok hM3) Fr.n)))
theorem fL_setCost {k0 : Nat} {k1 : Nat} {x1 : Int32} {x2 : Int32} {x3 : Int32} {M : Mem} (wk1 : 5 ≤ k1) (hM : KS SA M0 M) : Fr SA M0 (mL_setCost k0 k1 x1 x2 x3 M) := by
  unfold mL_setCost
  exact (Fr.t (fX6_setCost hM) (fun M3 r2 hM3 => (Fr.k (Fr.bl hM3 (fun M7 hM7 => (Fr.ok hM7))))) (fun M3 e4 hM3 => (Fr.i (Fr.ok hM3) Fr.n)))
theorem fL_written {k0 : Nat} {k1 : Nat} {x1 : Int32} {M : Mem} (wk1 : 5 ≤ k1) (hM : KS SA M0 M) : Fr SA M0 (mL_written k0 k1 x1 M) := by
  unfold mL_written
  exact (Fr.t (fX6_written hM) (fun M3 r2 hM3 => (Fr.k (Fr.bl hM3 (fun M7 hM7 => (Fr.ok hM7))))) (fun M3 e4 hM3 => (Fr.i (Fr.ok hM3) Fr.n)))
end FFcls
end
/-! part 60q.frr -/
section
/-! frames of the reference, reading a text left out (printed) -/
abbrev SB2 (k j : Nat) : Prop := k ≠ 140 ∧ ¬ (k = 135 ∧ (j = 7 ∨ j = 8 ∨ j = 9))
section FFref
variable {M0 : Mem}
theorem fX7_good {x1 : Int32} {M : Mem} (hM : KS SB2 M0 M) : Fr SB2 M0 (mX7_good 135 x1 M) := by
  unfold mX7_good
  exact (Fr.i (Fr.bw (by decide) hM (fun M2 hM2 => (Fr.k (Fr.ok hM2)))) (Fr.bw (by decide) hM (fun M5 hM5 => (Fr.k (Fr.ok hM5)))))
theorem fX7_good__b18 {y1 : Int32} {M : Mem} (hM : KS SB2 M0 M) : Fr SB2 M0 (mX7_good__b18 135 y1 M) := by
  unfold mX7_good__b18
  exact (Fr.bw (by decide) hM (fun M3 hM3 => (Fr.i (Fr.ok hM3) (Fr.ok hM3))))
theorem fX7_good_ {x1 : Int32} {x2 : Int32} {M : Mem} (hM : KS SB2 M0 M) : Fr SB2 M0 (mX7_good_ 135 x1 x2 M) := by
  unfold mX7_good_
  exact (Fr.i (fX7_good__b18 hM) (Fr.i (fX7_good__b18 hM) (fX7_good__b18 hM)))
theorem fX7_good___b26 {y1 : Int32} {M : Mem} (hM : KS SB2 M0 M) : Fr SB2 M0 (mX7_good___b26 135 y1 M) := by
  unfold mX7_good___b26
  exact (Fr.bw (by decide) hM (fun M4 hM4 => (Fr.i (Fr.ok hM4) (Fr.ok hM4))))
theorem fX7_good__ {x1 : Int32} {x2 : Int32} {x3 : Int32} {M : Mem} (hM : KS SB2 M0 M) : Fr SB2 M0 (mX7_good__ 135 x1 x2 x3 M) := by
  unfold mX7_good__
  exact (Fr.i (fX7_good___b26 hM) (Fr.i (fX7_good___b26 hM) (Fr.i (fX7_good___b26 hM) (fX7_good___b26 hM))))
theorem fX7_remember_b52 {ih52 : Int32 → Mem → Option (Mem × Unit)} {x1 : Int32} {M : Mem} (hih52 : ∀ (v0 : Int32) (v1 : Mem), KS SB2 M0 v1 → Fr SB2 M0 (ih52 v0 v1)) (hM : KS SB2 M0 M) : Fr SB2 M0 (mX7_remember_b52 135 ih52 x1 M) := by
  unfold mX7_remember_b52
  exact (Fr.i (Fr.bw (by decide) hM (fun M3 hM3 => (Fr.ok hM3))) (Fr.k (Fr.k (Fr.bw ⟨by decide, fun q => absurd q.1 (by decide)⟩ hM (fun M8 hM8 => (Fr.b (fun x1_78 => (hih52 _ _ hM8))))))))
theorem fX7_remember_l52_n  : ∀ (n : Nat) (v0 : Int32) (v1 : Mem), KS SB2 M0 v1 → Fr SB2 M0 (mX7_remember_l52 135 n v0 v1) := by
  intro n
  induction n with
  | zero => intro v0 v1 h; exact Fr.n
  | succ n IH => intro v0 v1 h; exact fX7_remember_b52  IH h
theorem fX7_remember_l52  {v0 : Int32} {v1 : Mem} {n : Nat} (h : KS SB2 M0 v1) : Fr SB2 M0 (mX7_remember_l52 135 n v0 v1) := fX7_remember_l52_n   n v0 v1 h
theorem fX7_remember_b50 {M : Mem} (hM : KS SB2 M0 M) : Fr SB2 M0 (mX7_remember_b50 135 M) := by
  unfold mX7_remember_b50
  exact (fX7_remember_l52 hM)
theorem fX7_remember_b12 {ih12 : Int32 → Mem → Option (Mem × Unit)} {x1 : Int32} {M : Mem} (hih12 : ∀ (v0 : Int32) (v1 : Mem), KS SB2 M0 v1 → Fr SB2 M0 (ih12 v0 v1)) (hM : KS SB2 M0 M) : Fr SB2 M0 (mX7_remember_b12 135 ih12 x1 M) := by
  unfold mX7_remember_b12
  exact (Fr.i (Fr.bw (by decide) hM (fun M11 hM11 => (fX7_remember_b50 hM11))) (Fr.k (Fr.k (Fr.bw ⟨by decide, fun q => absurd q.1 (by decide)⟩ hM (fun M16 hM16 => (Fr.b (fun x1_34 => (hih12 _ _ hM16))))))))
theorem fX7_remember_l12_n  : ∀ (n : Nat) (v0 : Int32) (v1 : Mem), KS SB2 M0 v1 → Fr SB2 M0 (mX7_remember_l12 135 n v0 v1) := by
  intro n
  induction n with
  | zero => intro v0 v1 h; exact Fr.n
  | succ n IH => intro v0 v1 h; exact fX7_remember_b12  IH h
theorem fX7_remember_l12  {v0 : Int32} {v1 : Mem} {n : Nat} (h : KS SB2 M0 v1) : Fr SB2 M0 (mX7_remember_l12 135 n v0 v1) := fX7_remember_l12_n   n v0 v1 h
theorem fX7_remember {M : Mem} (hM : KS SB2 M0 M) : Fr SB2 M0 (mX7_remember 135 M) := by
  unfold mX7_remember
  exact (Fr.i (fX7_remember_l12 hM) (fX7_remember_b50 hM))
theorem fX7_undo_b26 {ih26 : Int32 → Mem → Option (Mem × Int32)} {x1 : Int32} {M : Mem} (hih26 : ∀ (v0 : Int32) (v1 : Mem), KS SB2 M0 v1 → Fr SB2 M0 (ih26 v0 v1)) (hM : KS SB2 M0 M) : Fr SB2 M0 (mX7_undo_b26 135 ih26 x1 M) := by
  unfold mX7_undo_b26
  exact (Fr.i (Fr.ok hM) (Fr.k (Fr.k (Fr.bw ⟨by decide, fun q => absurd q.1 (by decide)⟩ hM (fun M10 hM10 => (Fr.b (fun x1_52 => (hih26 _ _ hM10))))))))
theorem fX7_undo_l26_n  : ∀ (n : Nat) (v0 : Int32) (v1 : Mem), KS SB2 M0 v1 → Fr SB2 M0 (mX7_undo_l26 135 n v0 v1) := by
  intro n
  induction n with
  | zero => intro v0 v1 h; exact Fr.n
  | succ n IH => intro v0 v1 h; exact fX7_undo_b26  IH h
theorem fX7_undo_l26  {v0 : Int32} {v1 : Mem} {n : Nat} (h : KS SB2 M0 v1) : Fr SB2 M0 (mX7_undo_l26 135 n v0 v1) := fX7_undo_l26_n   n v0 v1 h
theorem fX7_undo {M : Mem} (hM : KS SB2 M0 M) : Fr SB2 M0 (mX7_undo 135 M) := by
  unfold mX7_undo
  exact (Fr.bw (by decide) hM (fun M1 hM1 => (Fr.i (Fr.ok hM1) (Fr.bw (by decide) hM1 (fun M4 hM4 => (fX7_undo_l26 hM4))))))
theorem fX7_errorKind {M : Mem} (hM : KS SB2 M0 M) : Fr SB2 M0 (mX7_errorKind 135 M) := by
  unfold mX7_errorKind
  exact (Fr.bw (by decide) hM (fun M1 hM1 => (Fr.ok hM1)))
theorem fX7_errorPosition {M : Mem} (hM : KS SB2 M0 M) : Fr SB2 M0 (mX7_errorPosition 135 M) := by
  unfold mX7_errorPosition
  exact (Fr.bw (by decide) hM (fun M1 hM1 => (Fr.ok hM1)))
theorem fX7_tellNow {x1 : Int32} {M : Mem} (hM : KS SB2 M0 M) : Fr SB2 M0 (mX7_tellNow 135 x1 M) := by
  unfold mX7_tellNow
  exact (Fr.bw (by decide) hM (fun M1 hM1 => (Fr.k (Fr.ok hM1))))
theorem fX7_bends {M : Mem} (hM : KS SB2 M0 M) : Fr SB2 M0 (mX7_bends 135 M) := by
  unfold mX7_bends
  exact (Fr.m (fX7_tellNow hM) (fun M3 r2 hM3 => (Fr.ok hM3)))
theorem fX7_legs {M : Mem} (hM : KS SB2 M0 M) : Fr SB2 M0 (mX7_legs 135 M) := by
  unfold mX7_legs
  exact (Fr.m (fX7_tellNow hM) (fun M3 r2 hM3 => (Fr.ok hM3)))
theorem fX7_leg {x1 : Int32} {M : Mem} (hM : KS SB2 M0 M) : Fr SB2 M0 (mX7_leg 135 x1 M) := by
  unfold mX7_leg
  exact (Fr.c (fun r2 => (Fr.m (fX7_good hM) (fun M6 r5 hM6 => (Fr.i (Fr.ok hM6) (Fr.k (Fr.ok hM6)))))))
theorem fX7_isUp {x1 : Int32} {M : Mem} (hM : KS SB2 M0 M) : Fr SB2 M0 (mX7_isUp 135 x1 M) := by
  unfold mX7_isUp
  exact (Fr.c (fun r2 => (Fr.m (fX7_good hM) (fun M6 r5 hM6 => (Fr.i (Fr.ok hM6) (Fr.k (Fr.i (Fr.ok hM6) (Fr.ok hM6))))))))
theorem fX7_deduction {M : Mem} (hM : KS SB2 M0 M) : Fr SB2 M0 (mX7_deduction 135 M) := by
  unfold mX7_deduction
  exact (Fr.bw (by decide) hM (fun M1 hM1 => (Fr.c (fun r4 => (Fr.ok hM1)))))
theorem fX7_flatLength {M : Mem} (hM : KS SB2 M0 M) : Fr SB2 M0 (mX7_flatLength 135 M) := by
  unfold mX7_flatLength
  exact (Fr.bw (by decide) hM (fun M1 hM1 => (Fr.k (Fr.i (Fr.ok hM1) (Fr.k (Fr.c (fun r7 => (Fr.k (Fr.c (fun r11 => (Fr.k (Fr.k (Fr.ok hM1)))))))))))))
theorem fX7_linePlace {x1 : Int32} {M : Mem} (hM : KS SB2 M0 M) : Fr SB2 M0 (mX7_linePlace 135 x1 M) := by
  unfold mX7_linePlace
  exact (Fr.c (fun r2 => (Fr.m (fX7_good hM) (fun M6 r5 hM6 => (Fr.i (Fr.ok hM6) (Fr.c (fun r9 => (Fr.k (Fr.c (fun r13 => (Fr.k (Fr.k (Fr.ok hM6)))))))))))))
theorem fX7_ratio {M : Mem} (hM : KS SB2 M0 M) : Fr SB2 M0 (mX7_ratio 135 M) := by
  unfold mX7_ratio
  exact (Fr.bw (by decide) hM (fun M1 hM1 => (Fr.c (fun r4 => (Fr.ok hM1)))))
theorem fX7_springBack {M : Mem} (hM : KS SB2 M0 M) : Fr SB2 M0 (mX7_springBack 135 M) := by
  unfold mX7_springBack
  exact (Fr.bw (by decide) hM (fun M1 hM1 => (Fr.c (fun r4 => (Fr.c (fun r7 => (Fr.ok hM1)))))))
theorem fX7_springBackFor_b20 {x1 : UInt64} {y1 : Int32} {M : Mem} (hM : KS SB2 M0 M) : Fr SB2 M0 (mX7_springBackFor_b20 135 x1 y1 M) := by
  unfold mX7_springBackFor_b20
  exact (Fr.m (fX7_good hM) (fun M4 r3 hM4 => (Fr.i (Fr.ok hM4) (Fr.c (fun r7 => (Fr.ok hM4))))))
theorem fX7_springBackFor_b19 {x1 : UInt64} {M : Mem} (hM : KS SB2 M0 M) : Fr SB2 M0 (mX7_springBackFor_b19 135 x1 M) := by
  unfold mX7_springBackFor_b19
  exact (fX7_springBackFor_b20 hM)
theorem fX7_springBackFor {x1 : UInt64} {M : Mem} (hM : KS SB2 M0 M) : Fr SB2 M0 (mX7_springBackFor 135 x1 M) := by
  unfold mX7_springBackFor
  exact (Fr.i (fX7_springBackFor_b19 hM) (Fr.i (fX7_springBackFor_b19 hM) (fX7_springBackFor_b20 hM)))
theorem fX7_swingAngle {M : Mem} (hM : KS SB2 M0 M) : Fr SB2 M0 (mX7_swingAngle 135 M) := by
  unfold mX7_swingAngle
  exact (Fr.bw (by decide) hM (fun M1 hM1 => (Fr.c (fun r4 => (Fr.c (fun r7 => (Fr.k (Fr.ok hM1))))))))
theorem fX7_tool {x1 : Int32} {x2 : Int32} {M : Mem} (hM : KS SB2 M0 M) : Fr SB2 M0 (mX7_tool 135 x1 x2 M) := by
  unfold mX7_tool
  exact (Fr.c (fun r2 => (Fr.m (fX7_good hM) (fun M6 r5 hM6 => (Fr.i (Fr.ok hM6) (Fr.k (Fr.ok hM6)))))))
theorem fX7_isSymmetric {M : Mem} (hM : KS SB2 M0 M) : Fr SB2 M0 (mX7_isSymmetric 135 M) := by
  unfold mX7_isSymmetric
  exact (Fr.bw (by decide) hM (fun M1 hM1 => (Fr.k (Fr.c (fun r5 => (Fr.i (Fr.ok hM1) (Fr.k (Fr.c (fun r10 => (Fr.i (Fr.ok hM1) (Fr.ok hM1)))))))))))
theorem fX7_longestLeg_b48 {ih9 : Int32 → Int32 → Mem → Option (Mem × Int32)} {x2 : Int32} {y0 : Int32} {M : Mem} (hih9 : ∀ (v0 : Int32) (v1 : Int32) (v2 : Mem), KS SB2 M0 v2 → Fr SB2 M0 (ih9 v0 v1 v2)) (hM : KS SB2 M0 M) : Fr SB2 M0 (mX7_longestLeg_b48 135 ih9 x2 y0 M) := by
  unfold mX7_longestLeg_b48
  exact (Fr.b (fun x2_49 => (hih9 _ _ _ hM)))
theorem fX7_longestLeg_b43 {ih9 : Int32 → Int32 → Mem → Option (Mem × Int32)} {x2 : Int32} {M : Mem} (hih9 : ∀ (v0 : Int32) (v1 : Int32) (v2 : Mem), KS SB2 M0 v2 → Fr SB2 M0 (ih9 v0 v1 v2)) (hM : KS SB2 M0 M) : Fr SB2 M0 (mX7_longestLeg_b43 135 ih9 x2 M) := by
  unfold mX7_longestLeg_b43
  exact (fX7_longestLeg_b48 hih9 hM)
theorem fX7_longestLeg_b9 {ih9 : Int32 → Int32 → Mem → Option (Mem × Int32)} {x1 : Int32} {x2 : Int32} {M : Mem} (hih9 : ∀ (v0 : Int32) (v1 : Int32) (v2 : Mem), KS SB2 M0 v2 → Fr SB2 M0 (ih9 v0 v1 v2)) (hM : KS SB2 M0 M) : Fr SB2 M0 (mX7_longestLeg_b9 135 ih9 x1 x2 M) := by
  unfold mX7_longestLeg_b9
  exact (Fr.k (Fr.i (Fr.ok hM) (Fr.i (fX7_longestLeg_b43 hih9 hM) (Fr.k (Fr.k (Fr.i (fX7_longestLeg_b48 hih9 hM) (fX7_longestLeg_b43 hih9 hM)))))))
theorem fX7_longestLeg_l9_n  : ∀ (n : Nat) (v0 : Int32) (v1 : Int32) (v2 : Mem), KS SB2 M0 v2 → Fr SB2 M0 (mX7_longestLeg_l9 135 n v0 v1 v2) := by
  intro n
  induction n with
  | zero => intro v0 v1 v2 h; exact Fr.n
  | succ n IH => intro v0 v1 v2 h; exact fX7_longestLeg_b9  IH h
theorem fX7_longestLeg_l9  {v0 : Int32} {v1 : Int32} {v2 : Mem} {n : Nat} (h : KS SB2 M0 v2) : Fr SB2 M0 (mX7_longestLeg_l9 135 n v0 v1 v2) := fX7_longestLeg_l9_n   n v0 v1 v2 h
theorem fX7_longestLeg {M : Mem} (hM : KS SB2 M0 M) : Fr SB2 M0 (mX7_longestLeg 135 M) := by
  unfold mX7_longestLeg
  exact (Fr.bw (by decide) hM (fun M1 hM1 => (fX7_longestLeg_l9 hM1)))
theorem fX7_layLeg {x1 : Int32} {x2 : Int32} {M : Mem} (hM : KS SB2 M0 M) : Fr SB2 M0 (mX7_layLeg 135 x1 x2 M) := by
  unfold mX7_layLeg
  exact (Fr.k (Fr.bw ⟨by decide, fun q => absurd q.1 (by decide)⟩ hM (fun M3 hM3 => (Fr.k (Fr.bw ⟨by decide, fun q => absurd q.1 (by decide)⟩ hM3 (fun M6 hM6 => (Fr.c (fun r8 => (Fr.k (Fr.bw (by decide) hM6 (fun M11 hM11 => (Fr.c (fun r14 => (Fr.k (Fr.bw (by decide) hM11 (fun M17 hM17 => (Fr.k (Fr.bw ⟨by decide, fun q => absurd q.1 (by decide)⟩ hM17 (fun M21 hM21 => (Fr.k (Fr.bw ⟨by decide, fun q => absurd q.1 (by decide)⟩ hM21 (fun M24 hM24 => (Fr.ok hM24)))))))))))))))))))))))
theorem fX7_laySide_b136 {ih16 : Int32 → Int32 → Int32 → Int32 → Int32 → Int32 → Mem → Option (Mem × Unit)} {x2 : Int32} {x4 : Int32} {x5 : Int32} {x6 : Int32} {x7 : Int32} {x8 : Int32} {M : Mem} (hih16 : ∀ (v0 : Int32) (v1 : Int32) (v2 : Int32) (v3 : Int32) (v4 : Int32) (v5 : Int32) (v6 : Mem), KS SB2 M0 v6 → Fr SB2 M0 (ih16 v0 v1 v2 v3 v4 v5 v6)) (hM : KS SB2 M0 M) : Fr SB2 M0 (mX7_laySide_b136 135 ih16 x2 x4 x5 x6 x7 x8 M) := by
  unfold mX7_laySide_b136
  exact (Fr.b (fun x8_140 => (hih16 _ _ _ _ _ _ _ hM)))
theorem fX7_laySide_b131 {ih16 : Int32 → Int32 → Int32 → Int32 → Int32 → Int32 → Mem → Option (Mem × Unit)} {x2 : Int32} {x4 : Int32} {x5 : Int32} {x6 : Int32} {x8 : Int32} {y0 : Int32} {y1 : Int32} {M : Mem} (hih16 : ∀ (v0 : Int32) (v1 : Int32) (v2 : Int32) (v3 : Int32) (v4 : Int32) (v5 : Int32) (v6 : Mem), KS SB2 M0 v6 → Fr SB2 M0 (ih16 v0 v1 v2 v3 v4 v5 v6)) (hM : KS SB2 M0 M) : Fr SB2 M0 (mX7_laySide_b131 135 ih16 x2 x4 x5 x6 x8 y0 y1 M) := by
  unfold mX7_laySide_b131
  exact (Fr.b (fun x7_134 => (fX7_laySide_b136 hih16 hM)))
theorem fX7_laySide_b113 {ih16 : Int32 → Int32 → Int32 → Int32 → Int32 → Int32 → Mem → Option (Mem × Unit)} {x2 : Int32} {x4 : Int32} {x5 : Int32} {x6 : Int32} {x7 : Int32} {x8 : Int32} {y0 : Int32} {M : Mem} (hih16 : ∀ (v0 : Int32) (v1 : Int32) (v2 : Int32) (v3 : Int32) (v4 : Int32) (v5 : Int32) (v6 : Mem), KS SB2 M0 v6 → Fr SB2 M0 (ih16 v0 v1 v2 v3 v4 v5 v6)) (hM : KS SB2 M0 M) : Fr SB2 M0 (mX7_laySide_b113 135 ih16 x2 x4 x5 x6 x7 x8 y0 M) := by
  unfold mX7_laySide_b113
  exact (Fr.i (fX7_laySide_b131 hih16 hM) (fX7_laySide_b131 hih16 hM))
theorem fX7_laySide_b103 {ih16 : Int32 → Int32 → Int32 → Int32 → Int32 → Int32 → Mem → Option (Mem × Unit)} {x2 : Int32} {x4 : Int32} {x5 : Int32} {x6 : Int32} {x7 : Int32} {x8 : Int32} {y0 : Int32} {M : Mem} (hih16 : ∀ (v0 : Int32) (v1 : Int32) (v2 : Int32) (v3 : Int32) (v4 : Int32) (v5 : Int32) (v6 : Mem), KS SB2 M0 v6 → Fr SB2 M0 (ih16 v0 v1 v2 v3 v4 v5 v6)) (hM : KS SB2 M0 M) : Fr SB2 M0 (mX7_laySide_b103 135 ih16 x2 x4 x5 x6 x7 x8 y0 M) := by
  unfold mX7_laySide_b103
  exact (Fr.i (fX7_laySide_b113 hih16 hM) (fX7_laySide_b113 hih16 hM))
theorem fX7_laySide_b53 {ih16 : Int32 → Int32 → Int32 → Int32 → Int32 → Int32 → Mem → Option (Mem × Unit)} {x2 : Int32} {x4 : Int32} {x5 : Int32} {x6 : Int32} {x7 : Int32} {x8 : Int32} {y0 : Int32} {M : Mem} (hih16 : ∀ (v0 : Int32) (v1 : Int32) (v2 : Int32) (v3 : Int32) (v4 : Int32) (v5 : Int32) (v6 : Mem), KS SB2 M0 v6 → Fr SB2 M0 (ih16 v0 v1 v2 v3 v4 v5 v6)) (hM : KS SB2 M0 M) : Fr SB2 M0 (mX7_laySide_b53 135 ih16 x2 x4 x5 x6 x7 x8 y0 M) := by
  unfold mX7_laySide_b53
  exact (Fr.k (Fr.c (fun r14 => (Fr.i (fX7_laySide_b136 hih16 hM) (Fr.c (fun r19 => (Fr.i (fX7_laySide_b136 hih16 hM) (Fr.k (Fr.i (fX7_laySide_b103 hih16 hM) (fX7_laySide_b103 hih16 hM))))))))))
theorem fX7_laySide_b16 {ih16 : Int32 → Int32 → Int32 → Int32 → Int32 → Int32 → Mem → Option (Mem × Unit)} {x2 : Int32} {x4 : Int32} {x5 : Int32} {x6 : Int32} {x7 : Int32} {x8 : Int32} {M : Mem} (hih16 : ∀ (v0 : Int32) (v1 : Int32) (v2 : Int32) (v3 : Int32) (v4 : Int32) (v5 : Int32) (v6 : Mem), KS SB2 M0 v6 → Fr SB2 M0 (ih16 v0 v1 v2 v3 v4 v5 v6)) (hM : KS SB2 M0 M) : Fr SB2 M0 (mX7_laySide_b16 135 ih16 x2 x4 x5 x6 x7 x8 M) := by
  unfold mX7_laySide_b16
  exact (Fr.i (Fr.ok hM) (Fr.k (Fr.i (Fr.ok hM) (Fr.m (fX7_layLeg hM) (fun M10 _ hM10 => (Fr.i (fX7_laySide_b53 hih16 hM10) (fX7_laySide_b53 hih16 hM10)))))))
theorem fX7_laySide_l16_n  : ∀ (n : Nat) (v0 : Int32) (v1 : Int32) (v2 : Int32) (v3 : Int32) (v4 : Int32) (v5 : Int32) (v6 : Mem), KS SB2 M0 v6 → Fr SB2 M0 (mX7_laySide_l16 135 n v0 v1 v2 v3 v4 v5 v6) := by
  intro n
  induction n with
  | zero => intro v0 v1 v2 v3 v4 v5 v6 h; exact Fr.n
  | succ n IH => intro v0 v1 v2 v3 v4 v5 v6 h; exact fX7_laySide_b16  IH h
theorem fX7_laySide_l16  {v0 : Int32} {v1 : Int32} {v2 : Int32} {v3 : Int32} {v4 : Int32} {v5 : Int32} {v6 : Mem} {n : Nat} (h : KS SB2 M0 v6) : Fr SB2 M0 (mX7_laySide_l16 135 n v0 v1 v2 v3 v4 v5 v6) := fX7_laySide_l16_n   n v0 v1 v2 v3 v4 v5 v6 h
theorem fX7_laySide {x1 : Int32} {x2 : Int32} {x3 : Int32} {x4 : Int32} {x5 : Int32} {x6 : Int32} {M : Mem} (hM : KS SB2 M0 M) : Fr SB2 M0 (mX7_laySide 135 x1 x2 x3 x4 x5 x6 M) := by
  unfold mX7_laySide
  exact (Fr.bw (by decide) hM (fun M1 hM1 => (Fr.bw (by decide) hM1 (fun M3 hM3 => (fX7_laySide_l16 hM3)))))
theorem fX7_laySheet_b69 {x3 : Int32} {x4 : Int32} {y1 : Int32} {y2 : Int32} {y3 : Int32} {y4 : Int32} {M : Mem} (hM : KS SB2 M0 M) : Fr SB2 M0 (mX7_laySheet_b69 135 x3 x4 y1 y2 y3 y4 M) := by
  unfold mX7_laySheet_b69
  exact (Fr.m (fX7_laySide hM) (fun M12 _ hM12 => (Fr.ok hM12)))
theorem fX7_laySheet_b60 {x2 : Int32} {x3 : Int32} {x4 : Int32} {y1 : Int32} {y2 : Int32} {y3 : Int32} {M : Mem} (hM : KS SB2 M0 M) : Fr SB2 M0 (mX7_laySheet_b60 135 x2 x3 x4 y1 y2 y3 M) := by
  unfold mX7_laySheet_b60
  exact (Fr.i (fX7_laySheet_b69 hM) (fX7_laySheet_b69 hM))
theorem fX7_laySheet_b40 {x1 : Int32} {x2 : Int32} {x3 : Int32} {x4 : Int32} {y1 : Int32} {y2 : Int32} {y3 : Int32} {y4 : Int32} {M : Mem} (hM : KS SB2 M0 M) : Fr SB2 M0 (mX7_laySheet_b40 135 x1 x2 x3 x4 y1 y2 y3 y4 M) := by
  unfold mX7_laySheet_b40
  exact (Fr.m (fX7_laySide hM) (fun M7 _ hM7 => (Fr.i (fX7_laySheet_b60 hM7) (fX7_laySheet_b60 hM7))))
theorem fX7_laySheet_b31 {x1 : Int32} {x2 : Int32} {x3 : Int32} {x4 : Int32} {y1 : Int32} {y2 : Int32} {y3 : Int32} {M : Mem} (hM : KS SB2 M0 M) : Fr SB2 M0 (mX7_laySheet_b31 135 x1 x2 x3 x4 y1 y2 y3 M) := by
  unfold mX7_laySheet_b31
  exact (Fr.i (fX7_laySheet_b40 hM) (fX7_laySheet_b40 hM))
theorem fX7_laySheet_b17 {x1 : Int32} {x2 : Int32} {x3 : Int32} {y0 : Int32} {M : Mem} (hM : KS SB2 M0 M) : Fr SB2 M0 (mX7_laySheet_b17 135 x1 x2 x3 y0 M) := by
  unfold mX7_laySheet_b17
  exact (Fr.i (fX7_laySheet_b31 hM) (fX7_laySheet_b31 hM))
theorem fX7_laySheet {x1 : Int32} {x2 : Int32} {x3 : Int32} {M : Mem} (hM : KS SB2 M0 M) : Fr SB2 M0 (mX7_laySheet 135 x1 x2 x3 M) := by
  unfold mX7_laySheet
  exact (Fr.k (Fr.i (fX7_laySheet_b17 hM) (fX7_laySheet_b17 hM)))
theorem fX7_reasonOf {x1 : Int32} {x2 : Int32} {x3 : Int32} {M : Mem} (hM : KS SB2 M0 M) : Fr SB2 M0 (mX7_reasonOf 135 x1 x2 x3 M) := by
  unfold mX7_reasonOf
  exact (Fr.c (fun r2 => (Fr.i (Fr.c (fun r6 => (Fr.i (Fr.m (fX7_laySheet hM) (fun M11 _ hM11 => (Fr.c (fun r13 => (Fr.i (Fr.ok hM11) (Fr.c (fun r17 => (Fr.i (Fr.c (fun r21 => (Fr.i (Fr.c (fun r25 => (Fr.i (Fr.ok hM11) (Fr.ok hM11)))) (Fr.ok hM11)))) (Fr.ok hM11))))))))) (Fr.ok hM)))) (Fr.ok hM))))
theorem fX7_layFinished_b66 {ih14 : Int32 → Int32 → Mem → Option (Mem × Unit)} {x2 : Int32} {y0 : Int32} {M : Mem} (hih14 : ∀ (v0 : Int32) (v1 : Int32) (v2 : Mem), KS SB2 M0 v2 → Fr SB2 M0 (ih14 v0 v1 v2)) (hM : KS SB2 M0 M) : Fr SB2 M0 (mX7_layFinished_b66 135 ih14 x2 y0 M) := by
  unfold mX7_layFinished_b66
  exact (Fr.b (fun x2_67 => (hih14 _ _ _ hM)))
theorem fX7_layFinished_b63 {ih14 : Int32 → Int32 → Mem → Option (Mem × Unit)} {x2 : Int32} {y0 : Int32} {y1 : Int32} {M : Mem} (hih14 : ∀ (v0 : Int32) (v1 : Int32) (v2 : Mem), KS SB2 M0 v2 → Fr SB2 M0 (ih14 v0 v1 v2)) (hM : KS SB2 M0 M) : Fr SB2 M0 (mX7_layFinished_b63 135 ih14 x2 y0 y1 M) := by
  unfold mX7_layFinished_b63
  exact (fX7_layFinished_b66 hih14 hM)
theorem fX7_layFinished_b14 {ih14 : Int32 → Int32 → Mem → Option (Mem × Unit)} {x1 : Int32} {x2 : Int32} {M : Mem} (hih14 : ∀ (v0 : Int32) (v1 : Int32) (v2 : Mem), KS SB2 M0 v2 → Fr SB2 M0 (ih14 v0 v1 v2)) (hM : KS SB2 M0 M) : Fr SB2 M0 (mX7_layFinished_b14 135 ih14 x1 x2 M) := by
  unfold mX7_layFinished_b14
  exact (Fr.k (Fr.i (Fr.ok hM) (Fr.m (fX7_layLeg hM) (fun M9 _ hM9 => (Fr.k (Fr.i (fX7_layFinished_b66 hih14 hM9) (Fr.k (Fr.i (fX7_layFinished_b63 hih14 hM9) (fX7_layFinished_b63 hih14 hM9)))))))))
theorem fX7_layFinished_l14_n  : ∀ (n : Nat) (v0 : Int32) (v1 : Int32) (v2 : Mem), KS SB2 M0 v2 → Fr SB2 M0 (mX7_layFinished_l14 135 n v0 v1 v2) := by
  intro n
  induction n with
  | zero => intro v0 v1 v2 h; exact Fr.n
  | succ n IH => intro v0 v1 v2 h; exact fX7_layFinished_b14  IH h
theorem fX7_layFinished_l14  {v0 : Int32} {v1 : Int32} {v2 : Mem} {n : Nat} (h : KS SB2 M0 v2) : Fr SB2 M0 (mX7_layFinished_l14 135 n v0 v1 v2) := fX7_layFinished_l14_n   n v0 v1 v2 h
theorem fX7_layFinished {M : Mem} (hM : KS SB2 M0 M) : Fr SB2 M0 (mX7_layFinished 135 M) := by
  unfold mX7_layFinished
  exact (Fr.bw (by decide) hM (fun M1 hM1 => (Fr.bw (by decide) hM1 (fun M3 hM3 => (fX7_layFinished_l14 hM3)))))
theorem fX7_finishedWidth_b15 {ih15 : Int32 → Int32 → Int32 → Mem → Option (Mem × Int32)} {x1 : Int32} {x2 : Int32} {x3 : Int32} {M : Mem} (hih15 : ∀ (v0 : Int32) (v1 : Int32) (v2 : Int32) (v3 : Mem), KS SB2 M0 v3 → Fr SB2 M0 (ih15 v0 v1 v2 v3)) (hM : KS SB2 M0 M) : Fr SB2 M0 (mX7_finishedWidth_b15 135 ih15 x1 x2 x3 M) := by
  unfold mX7_finishedWidth_b15
  exact (Fr.k (Fr.i (Fr.ok hM) (Fr.k (Fr.b (fun x1_35 => (Fr.k (Fr.b (fun x2_46 => (Fr.b (fun x3_47 => (hih15 _ _ _ _ hM)))))))))))
theorem fX7_finishedWidth_l15_n  : ∀ (n : Nat) (v0 : Int32) (v1 : Int32) (v2 : Int32) (v3 : Mem), KS SB2 M0 v3 → Fr SB2 M0 (mX7_finishedWidth_l15 135 n v0 v1 v2 v3) := by
  intro n
  induction n with
  | zero => intro v0 v1 v2 v3 h; exact Fr.n
  | succ n IH => intro v0 v1 v2 v3 h; exact fX7_finishedWidth_b15  IH h
theorem fX7_finishedWidth_l15  {v0 : Int32} {v1 : Int32} {v2 : Int32} {v3 : Mem} {n : Nat} (h : KS SB2 M0 v3) : Fr SB2 M0 (mX7_finishedWidth_l15 135 n v0 v1 v2 v3) := fX7_finishedWidth_l15_n   n v0 v1 v2 v3 h
theorem fX7_finishedWidth {M : Mem} (hM : KS SB2 M0 M) : Fr SB2 M0 (mX7_finishedWidth 135 M) := by
  unfold mX7_finishedWidth
  exact (Fr.bw (by decide) hM (fun M1 hM1 => (Fr.m (fX7_layFinished hM1) (fun M5 _ hM5 => (fX7_finishedWidth_l15 hM5)))))
theorem fX7_finishedHeight_b15 {ih15 : Int32 → Int32 → Int32 → Mem → Option (Mem × Int32)} {x1 : Int32} {x2 : Int32} {x3 : Int32} {M : Mem} (hih15 : ∀ (v0 : Int32) (v1 : Int32) (v2 : Int32) (v3 : Mem), KS SB2 M0 v3 → Fr SB2 M0 (ih15 v0 v1 v2 v3)) (hM : KS SB2 M0 M) : Fr SB2 M0 (mX7_finishedHeight_b15 135 ih15 x1 x2 x3 M) := by
  unfold mX7_finishedHeight_b15
  exact (Fr.k (Fr.i (Fr.ok hM) (Fr.k (Fr.b (fun x1_35 => (Fr.k (Fr.b (fun x2_46 => (Fr.b (fun x3_47 => (hih15 _ _ _ _ hM)))))))))))
theorem fX7_finishedHeight_l15_n  : ∀ (n : Nat) (v0 : Int32) (v1 : Int32) (v2 : Int32) (v3 : Mem), KS SB2 M0 v3 → Fr SB2 M0 (mX7_finishedHeight_l15 135 n v0 v1 v2 v3) := by
  intro n
  induction n with
  | zero => intro v0 v1 v2 v3 h; exact Fr.n
  | succ n IH => intro v0 v1 v2 v3 h; exact fX7_finishedHeight_b15  IH h
theorem fX7_finishedHeight_l15  {v0 : Int32} {v1 : Int32} {v2 : Int32} {v3 : Mem} {n : Nat} (h : KS SB2 M0 v3) : Fr SB2 M0 (mX7_finishedHeight_l15 135 n v0 v1 v2 v3) := fX7_finishedHeight_l15_n   n v0 v1 v2 v3 h
theorem fX7_finishedHeight {M : Mem} (hM : KS SB2 M0 M) : Fr SB2 M0 (mX7_finishedHeight 135 M) := by
  unfold mX7_finishedHeight
  exact (Fr.bw (by decide) hM (fun M1 hM1 => (Fr.m (fX7_layFinished hM1) (fun M5 _ hM5 => (fX7_finishedHeight_l15 hM5)))))
theorem fX7_isFinishedCrossed {M : Mem} (hM : KS SB2 M0 M) : Fr SB2 M0 (mX7_isFinishedCrossed 135 M) := by
  unfold mX7_isFinishedCrossed
  exact (Fr.bw (by decide) hM (fun M1 hM1 => (Fr.m (fX7_layFinished hM1) (fun M5 _ hM5 => (Fr.c (fun r7 => (Fr.k (Fr.ok hM5))))))))
theorem fX7_finishedCorner {x1 : Int32} {x2 : Int32} {M : Mem} (hM : KS SB2 M0 M) : Fr SB2 M0 (mX7_finishedCorner 135 x1 x2 M) := by
  unfold mX7_finishedCorner
  exact (Fr.c (fun r2 => (Fr.c (fun r5 => (Fr.m (fX7_good_ hM) (fun M9 r8 hM9 => (Fr.i (Fr.ok hM9) (Fr.m (fX7_layFinished hM9) (fun M13 _ hM13 => (Fr.i (Fr.k (Fr.ok hM13)) (Fr.k (Fr.ok hM13))))))))))))
theorem fX7_made {M : Mem} (hM : KS SB2 M0 M) : Fr SB2 M0 (mX7_made 135 M) := by
  unfold mX7_made
  exact (Fr.m (fX7_tellNow hM) (fun M3 r2 hM3 => (Fr.ok hM3)))
theorem fX7_steps {M : Mem} (hM : KS SB2 M0 M) : Fr SB2 M0 (mX7_steps 135 M) := by
  unfold mX7_steps
  exact (Fr.m (fX7_tellNow hM) (fun M3 r2 hM3 => (Fr.ok hM3)))
theorem fX7_step {x1 : Int32} {x2 : Int32} {M : Mem} (hM : KS SB2 M0 M) : Fr SB2 M0 (mX7_step 135 x1 x2 M) := by
  unfold mX7_step
  exact (Fr.k (Fr.c (fun r3 => (Fr.c (fun r6 => (Fr.m (fX7_good_ hM) (fun M10 r9 hM10 => (Fr.i (Fr.ok hM10) (Fr.c (fun r13 => (Fr.ok hM10)))))))))))
theorem fX7_costSoFar {M : Mem} (hM : KS SB2 M0 M) : Fr SB2 M0 (mX7_costSoFar 135 M) := by
  unfold mX7_costSoFar
  exact (Fr.bw (by decide) hM (fun M1 hM1 => (Fr.c (fun r4 => (Fr.ok hM1)))))
theorem fX7_reason {x1 : Int32} {x2 : Int32} {M : Mem} (hM : KS SB2 M0 M) : Fr SB2 M0 (mX7_reason 135 x1 x2 M) := by
  unfold mX7_reason
  exact (Fr.c (fun r2 => (Fr.c (fun r5 => (Fr.m (fX7_good_ hM) (fun M9 r8 hM9 => (Fr.i (Fr.ok hM9) (Fr.k (Fr.m (fX7_reasonOf hM9) (fun M14 r13 hM14 => (Fr.ok hM14)))))))))))
theorem fX7_gaugeOf {x1 : Int32} {x2 : Int32} {x3 : Int32} {M : Mem} (hM : KS SB2 M0 M) : Fr SB2 M0 (mX7_gaugeOf 135 x1 x2 x3 M) := by
  unfold mX7_gaugeOf
  exact (Fr.m (fX7_laySheet hM) (fun M3 _ hM3 => (Fr.c (fun r5 => (Fr.ok hM3)))))
theorem fX7_gauge {x1 : Int32} {x2 : Int32} {M : Mem} (hM : KS SB2 M0 M) : Fr SB2 M0 (mX7_gauge 135 x1 x2 M) := by
  unfold mX7_gauge
  exact (Fr.c (fun r2 => (Fr.c (fun r5 => (Fr.m (fX7_good_ hM) (fun M9 r8 hM9 => (Fr.i (Fr.ok hM9) (Fr.k (Fr.m (fX7_gaugeOf hM9) (fun M14 r13 hM14 => (Fr.ok hM14)))))))))))
theorem fX7_corner_b45 {x1 : Int32} {x2 : Int32} {x3 : Int32} {x4 : Int32} {y1 : Int32} {y2 : Int32} {M : Mem} (hM : KS SB2 M0 M) : Fr SB2 M0 (mX7_corner_b45 135 x1 x2 x3 x4 y1 y2 M) := by
  unfold mX7_corner_b45
  exact (Fr.m (fX7_good_ hM) (fun M11 r10 hM11 => (Fr.i (Fr.ok hM11) (Fr.k (Fr.m (fX7_laySheet hM11) (fun M16 _ hM16 => (Fr.i (Fr.k (Fr.ok hM16)) (Fr.k (Fr.ok hM16)))))))))
theorem fX7_corner_b44 {x1 : Int32} {x2 : Int32} {x3 : Int32} {x4 : Int32} {y1 : Int32} {M : Mem} (hM : KS SB2 M0 M) : Fr SB2 M0 (mX7_corner_b44 135 x1 x2 x3 x4 y1 M) := by
  unfold mX7_corner_b44
  exact (fX7_corner_b45 hM)
theorem fX7_corner_b22 {x1 : Int32} {x2 : Int32} {x3 : Int32} {x4 : Int32} {y1 : Int32} {M : Mem} (hM : KS SB2 M0 M) : Fr SB2 M0 (mX7_corner_b22 135 x1 x2 x3 x4 y1 M) := by
  unfold mX7_corner_b22
  exact (Fr.c (fun r6 => (Fr.i (fX7_corner_b44 hM) (Fr.c (fun r21 => (Fr.i (fX7_corner_b44 hM) (fX7_corner_b45 hM)))))))
theorem fX7_corner_b21 {x1 : Int32} {x2 : Int32} {x3 : Int32} {x4 : Int32} {M : Mem} (hM : KS SB2 M0 M) : Fr SB2 M0 (mX7_corner_b21 135 x1 x2 x3 x4 M) := by
  unfold mX7_corner_b21
  exact (fX7_corner_b22 hM)
theorem fX7_corner {x1 : Int32} {x2 : Int32} {x3 : Int32} {x4 : Int32} {M : Mem} (hM : KS SB2 M0 M) : Fr SB2 M0 (mX7_corner 135 x1 x2 x3 x4 M) := by
  unfold mX7_corner
  exact (Fr.c (fun r2 => (Fr.i (fX7_corner_b21 hM) (Fr.c (fun r25 => (Fr.i (fX7_corner_b21 hM) (fX7_corner_b22 hM)))))))
theorem fX7_top_b73 {ih36 : Int32 → Int32 → Int32 → Int32 → Mem → Option (Mem × Int32)} {x1 : Int32} {x2 : Int32} {x4 : Int32} {y0 : Int32} {M : Mem} (hih36 : ∀ (v0 : Int32) (v1 : Int32) (v2 : Int32) (v3 : Int32) (v4 : Mem), KS SB2 M0 v4 → Fr SB2 M0 (ih36 v0 v1 v2 v3 v4)) (hM : KS SB2 M0 M) : Fr SB2 M0 (mX7_top_b73 135 ih36 x1 x2 x4 y0 M) := by
  unfold mX7_top_b73
  exact (Fr.b (fun x4_74 => (hih36 _ _ _ _ _ hM)))
theorem fX7_top_b36 {ih36 : Int32 → Int32 → Int32 → Int32 → Mem → Option (Mem × Int32)} {x1 : Int32} {x2 : Int32} {x3 : Int32} {x4 : Int32} {M : Mem} (hih36 : ∀ (v0 : Int32) (v1 : Int32) (v2 : Int32) (v3 : Int32) (v4 : Mem), KS SB2 M0 v4 → Fr SB2 M0 (ih36 v0 v1 v2 v3 v4)) (hM : KS SB2 M0 M) : Fr SB2 M0 (mX7_top_b36 135 ih36 x1 x2 x3 x4 M) := by
  unfold mX7_top_b36
  exact (Fr.k (Fr.i (Fr.ok hM) (Fr.c (fun r18 => (Fr.i (Fr.k (fX7_top_b73 hih36 hM)) (fX7_top_b73 hih36 hM))))))
theorem fX7_top_l36_n  : ∀ (n : Nat) (v0 : Int32) (v1 : Int32) (v2 : Int32) (v3 : Int32) (v4 : Mem), KS SB2 M0 v4 → Fr SB2 M0 (mX7_top_l36 135 n v0 v1 v2 v3 v4) := by
  intro n
  induction n with
  | zero => intro v0 v1 v2 v3 v4 h; exact Fr.n
  | succ n IH => intro v0 v1 v2 v3 v4 h; exact fX7_top_b36  IH h
theorem fX7_top_l36  {v0 : Int32} {v1 : Int32} {v2 : Int32} {v3 : Int32} {v4 : Mem} {n : Nat} (h : KS SB2 M0 v4) : Fr SB2 M0 (mX7_top_l36 135 n v0 v1 v2 v3 v4) := fX7_top_l36_n   n v0 v1 v2 v3 v4 h
theorem fX7_top {x1 : Int32} {x2 : Int32} {M : Mem} (hM : KS SB2 M0 M) : Fr SB2 M0 (mX7_top 135 x1 x2 M) := by
  unfold mX7_top
  exact (Fr.c (fun r2 => (Fr.c (fun r5 => (Fr.m (fX7_good_ hM) (fun M9 r8 hM9 => (Fr.i (Fr.ok hM9) (Fr.k (Fr.m (fX7_laySheet hM9) (fun M14 _ hM14 => (fX7_top_l36 hM14)))))))))))
theorem fX7_hitting {x1 : Int32} {x2 : Int32} {M : Mem} (hM : KS SB2 M0 M) : Fr SB2 M0 (mX7_hitting 135 x1 x2 M) := by
  unfold mX7_hitting
  exact (Fr.c (fun r2 => (Fr.c (fun r5 => (Fr.m (fX7_good_ hM) (fun M9 r8 hM9 => (Fr.i (Fr.ok hM9) (Fr.k (Fr.m (fX7_laySheet hM9) (fun M14 _ hM14 => (Fr.c (fun r16 => (Fr.ok hM14)))))))))))))
theorem fX7_refused_b61 {ih22 : Int32 → Int32 → Int32 → Mem → Option (Mem × Int32)} {x1 : Int32} {x3 : Int32} {y0 : Int32} {y1 : Int32} {M : Mem} (hih22 : ∀ (v0 : Int32) (v1 : Int32) (v2 : Int32) (v3 : Mem), KS SB2 M0 v3 → Fr SB2 M0 (ih22 v0 v1 v2 v3)) (hM : KS SB2 M0 M) : Fr SB2 M0 (mX7_refused_b61 135 ih22 x1 x3 y0 y1 M) := by
  unfold mX7_refused_b61
  exact (Fr.b (fun x2_62 => (Fr.b (fun x3_63 => (hih22 _ _ _ _ hM)))))
theorem fX7_refused_b22 {ih22 : Int32 → Int32 → Int32 → Mem → Option (Mem × Int32)} {x1 : Int32} {x2 : Int32} {x3 : Int32} {M : Mem} (hih22 : ∀ (v0 : Int32) (v1 : Int32) (v2 : Int32) (v3 : Mem), KS SB2 M0 v3 → Fr SB2 M0 (ih22 v0 v1 v2 v3)) (hM : KS SB2 M0 M) : Fr SB2 M0 (mX7_refused_b22 135 ih22 x1 x2 x3 M) := by
  unfold mX7_refused_b22
  exact (Fr.k (Fr.i (Fr.ok hM) (Fr.k (Fr.m (fX7_reasonOf hM) (fun M13 r12 hM13 => (Fr.i (fX7_refused_b61 hih22 hM13) (fX7_refused_b61 hih22 hM13)))))))
theorem fX7_refused_l22_n  : ∀ (n : Nat) (v0 : Int32) (v1 : Int32) (v2 : Int32) (v3 : Mem), KS SB2 M0 v3 → Fr SB2 M0 (mX7_refused_l22 135 n v0 v1 v2 v3) := by
  intro n
  induction n with
  | zero => intro v0 v1 v2 v3 h; exact Fr.n
  | succ n IH => intro v0 v1 v2 v3 h; exact fX7_refused_b22  IH h
theorem fX7_refused_l22  {v0 : Int32} {v1 : Int32} {v2 : Int32} {v3 : Mem} {n : Nat} (h : KS SB2 M0 v3) : Fr SB2 M0 (mX7_refused_l22 135 n v0 v1 v2 v3) := fX7_refused_l22_n   n v0 v1 v2 v3 h
theorem fX7_refused {x1 : Int32} {M : Mem} (hM : KS SB2 M0 M) : Fr SB2 M0 (mX7_refused 135 x1 M) := by
  unfold mX7_refused
  exact (Fr.c (fun r2 => (Fr.m (fX7_good hM) (fun M6 r5 hM6 => (Fr.i (Fr.ok hM6) (fX7_refused_l22 hM6))))))
theorem fX7_possible_b49 {ih9 : Int32 → Int32 → Mem → Option (Mem × Int32)} {x2 : Int32} {y0 : Int32} {y1 : Int32} {M : Mem} (hih9 : ∀ (v0 : Int32) (v1 : Int32) (v2 : Mem), KS SB2 M0 v2 → Fr SB2 M0 (ih9 v0 v1 v2)) (hM : KS SB2 M0 M) : Fr SB2 M0 (mX7_possible_b49 135 ih9 x2 y0 y1 M) := by
  unfold mX7_possible_b49
  exact (Fr.b (fun x1_50 => (Fr.b (fun x2_51 => (hih9 _ _ _ hM)))))
theorem fX7_possible_b9 {ih9 : Int32 → Int32 → Mem → Option (Mem × Int32)} {x1 : Int32} {x2 : Int32} {M : Mem} (hih9 : ∀ (v0 : Int32) (v1 : Int32) (v2 : Mem), KS SB2 M0 v2 → Fr SB2 M0 (ih9 v0 v1 v2)) (hM : KS SB2 M0 M) : Fr SB2 M0 (mX7_possible_b9 135 ih9 x1 x2 M) := by
  unfold mX7_possible_b9
  exact (Fr.k (Fr.i (Fr.ok hM) (Fr.k (Fr.m (fX7_reasonOf hM) (fun M8 r7 hM8 => (Fr.i (fX7_possible_b49 hih9 hM8) (fX7_possible_b49 hih9 hM8)))))))
theorem fX7_possible_l9_n  : ∀ (n : Nat) (v0 : Int32) (v1 : Int32) (v2 : Mem), KS SB2 M0 v2 → Fr SB2 M0 (mX7_possible_l9 135 n v0 v1 v2) := by
  intro n
  induction n with
  | zero => intro v0 v1 v2 h; exact Fr.n
  | succ n IH => intro v0 v1 v2 h; exact fX7_possible_b9  IH h
theorem fX7_possible_l9  {v0 : Int32} {v1 : Int32} {v2 : Mem} {n : Nat} (h : KS SB2 M0 v2) : Fr SB2 M0 (mX7_possible_l9 135 n v0 v1 v2) := fX7_possible_l9_n   n v0 v1 v2 h
theorem fX7_possible {M : Mem} (hM : KS SB2 M0 M) : Fr SB2 M0 (mX7_possible 135 M) := by
  unfold mX7_possible
  exact (Fr.bw (by decide) hM (fun M1 hM1 => (fX7_possible_l9 hM1)))
theorem fX7_stuck_b71 {ih9 : Int32 → Int32 → Mem → Option (Mem × Int32)} {x2 : Int32} {y0 : Int32} {y1 : Int32} {M : Mem} (hih9 : ∀ (v0 : Int32) (v1 : Int32) (v2 : Mem), KS SB2 M0 v2 → Fr SB2 M0 (ih9 v0 v1 v2)) (hM : KS SB2 M0 M) : Fr SB2 M0 (mX7_stuck_b71 135 ih9 x2 y0 y1 M) := by
  unfold mX7_stuck_b71
  exact (Fr.b (fun x1_72 => (Fr.b (fun x2_73 => (hih9 _ _ _ hM)))))
theorem fX7_stuck_b70 {ih9 : Int32 → Int32 → Mem → Option (Mem × Int32)} {x2 : Int32} {y0 : Int32} {M : Mem} (hih9 : ∀ (v0 : Int32) (v1 : Int32) (v2 : Mem), KS SB2 M0 v2 → Fr SB2 M0 (ih9 v0 v1 v2)) (hM : KS SB2 M0 M) : Fr SB2 M0 (mX7_stuck_b70 135 ih9 x2 y0 M) := by
  unfold mX7_stuck_b70
  exact (fX7_stuck_b71 hih9 hM)
theorem fX7_stuck_b9 {ih9 : Int32 → Int32 → Mem → Option (Mem × Int32)} {x1 : Int32} {x2 : Int32} {M : Mem} (hih9 : ∀ (v0 : Int32) (v1 : Int32) (v2 : Mem), KS SB2 M0 v2 → Fr SB2 M0 (ih9 v0 v1 v2)) (hM : KS SB2 M0 M) : Fr SB2 M0 (mX7_stuck_b9 135 ih9 x1 x2 M) := by
  unfold mX7_stuck_b9
  exact (Fr.k (Fr.i (Fr.ok hM) (Fr.k (Fr.c (fun r7 => (Fr.i (Fr.k (Fr.m (fX7_reasonOf hM) (fun M15 r14 hM15 => (Fr.i (fX7_stuck_b70 hih9 hM15) (Fr.k (Fr.m (fX7_reasonOf hM15) (fun M20 r19 hM20 => (Fr.i (fX7_stuck_b70 hih9 hM20) (fX7_stuck_b71 hih9 hM20))))))))) (fX7_stuck_b70 hih9 hM)))))))
theorem fX7_stuck_l9_n  : ∀ (n : Nat) (v0 : Int32) (v1 : Int32) (v2 : Mem), KS SB2 M0 v2 → Fr SB2 M0 (mX7_stuck_l9 135 n v0 v1 v2) := by
  intro n
  induction n with
  | zero => intro v0 v1 v2 h; exact Fr.n
  | succ n IH => intro v0 v1 v2 h; exact fX7_stuck_b9  IH h
theorem fX7_stuck_l9  {v0 : Int32} {v1 : Int32} {v2 : Mem} {n : Nat} (h : KS SB2 M0 v2) : Fr SB2 M0 (mX7_stuck_l9 135 n v0 v1 v2) := fX7_stuck_l9_n   n v0 v1 v2 h
theorem fX7_stuck {M : Mem} (hM : KS SB2 M0 M) : Fr SB2 M0 (mX7_stuck 135 M) := by
  unfold mX7_stuck
  exact (Fr.bw (by decide) hM (fun M1 hM1 => (fX7_stuck_l9 hM1)))
theorem fX7_costNow {x1 : Int32} {x2 : Int32} {M : Mem} (hM : KS SB2 M0 M) : Fr SB2 M0 (mX7_costNow 135 x1 x2 M) := by
  unfold mX7_costNow
  exact (Fr.k (Fr.i (Fr.ok hM) (Fr.k (Fr.b (fun x3_21 => (Fr.c (fun r6 => (Fr.c (fun r9 => (Fr.c (fun r12 => (Fr.k (Fr.m (fX7_gaugeOf hM) (fun M17 r16 hM17 => (Fr.c (fun r19 => (Fr.ok hM17)))))))))))))))))
theorem fX7_costOf {x1 : Int32} {x2 : Int32} {M : Mem} (hM : KS SB2 M0 M) : Fr SB2 M0 (mX7_costOf 135 x1 x2 M) := by
  unfold mX7_costOf
  exact (Fr.c (fun r2 => (Fr.c (fun r5 => (Fr.m (fX7_good_ hM) (fun M9 r8 hM9 => (Fr.i (Fr.ok hM9) (Fr.m (fX7_costNow hM9) (fun M13 r12 hM13 => (Fr.ok hM13))))))))))
theorem fX7_layOrders_b117 {ih5 : Int32 → Mem → Option (Mem × Unit)} {x1 : Int32} {M : Mem} (hih5 : ∀ (v0 : Int32) (v1 : Mem), KS SB2 M0 v1 → Fr SB2 M0 (ih5 v0 v1)) (hM : KS SB2 M0 M) : Fr SB2 M0 (mX7_layOrders_b117 135 ih5 x1 M) := by
  unfold mX7_layOrders_b117
  exact (Fr.b (fun x1_117 => (hih5 _ _ hM)))
theorem fX7_layOrders_b109 {ih5 : Int32 → Mem → Option (Mem × Unit)} {ih30 : Int32 → Int32 → Mem → Option (Mem × Unit)} {x1 : Int32} {x2 : Int32} {y1 : Int32} {y2 : Int64} {y3 : Int64} {M : Mem} (hih5 : ∀ (v0 : Int32) (v1 : Mem), KS SB2 M0 v1 → Fr SB2 M0 (ih5 v0 v1)) (hih30 : ∀ (v0 : Int32) (v1 : Int32) (v2 : Mem), KS SB2 M0 v2 → Fr SB2 M0 (ih30 v0 v1 v2)) (hM : KS SB2 M0 M) : Fr SB2 M0 (mX7_layOrders_b109 135 ih5 ih30 x1 x2 y1 y2 y3 M) := by
  unfold mX7_layOrders_b109
  exact (Fr.k (Fr.bl hM (fun M30 hM30 => (Fr.b (fun x2_111 => (hih30 _ _ _ hM30))))))
theorem fX7_layOrders_b69 {ih5 : Int32 → Mem → Option (Mem × Unit)} {ih30 : Int32 → Int32 → Mem → Option (Mem × Unit)} {x1 : Int32} {x2 : Int32} {y0 : Int32} {M : Mem} (hih5 : ∀ (v0 : Int32) (v1 : Mem), KS SB2 M0 v1 → Fr SB2 M0 (ih5 v0 v1)) (hih30 : ∀ (v0 : Int32) (v1 : Int32) (v2 : Mem), KS SB2 M0 v2 → Fr SB2 M0 (ih30 v0 v1 v2)) (hM : KS SB2 M0 M) : Fr SB2 M0 (mX7_layOrders_b69 135 ih5 ih30 x1 x2 y0 M) := by
  unfold mX7_layOrders_b69
  exact (Fr.k (Fr.bw ⟨by decide, fun q => absurd q.1 (by decide)⟩ hM (fun M25 hM25 => (Fr.k (Fr.i (fX7_layOrders_b109 hih5 hih30 hM25) (Fr.k (fX7_layOrders_b109 hih5 hih30 hM25)))))))
theorem fX7_layOrders_b30 {ih5 : Int32 → Mem → Option (Mem × Unit)} {ih30 : Int32 → Int32 → Mem → Option (Mem × Unit)} {x1 : Int32} {x2 : Int32} {M : Mem} (hih5 : ∀ (v0 : Int32) (v1 : Mem), KS SB2 M0 v1 → Fr SB2 M0 (ih5 v0 v1)) (hih30 : ∀ (v0 : Int32) (v1 : Int32) (v2 : Mem), KS SB2 M0 v2 → Fr SB2 M0 (ih30 v0 v1 v2)) (hM : KS SB2 M0 M) : Fr SB2 M0 (mX7_layOrders_b30 135 ih5 ih30 x1 x2 M) := by
  unfold mX7_layOrders_b30
  exact (Fr.k (Fr.i (fX7_layOrders_b117 hih5 hM) (Fr.c (fun r16 => (Fr.i (fX7_layOrders_b117 hih5 hM) (Fr.m (fX7_reasonOf hM) (fun M21 r20 hM21 => (Fr.i (fX7_layOrders_b69 hih5 hih30 hM21) (fX7_layOrders_b69 hih5 hih30 hM21)))))))))
theorem fX7_layOrders_l30_n {ih5 : Int32 → Mem → Option (Mem × Unit)} (hih5 : ∀ (u0 : Int32) (u1 : Mem), KS SB2 M0 u1 → Fr SB2 M0 (ih5 u0 u1)) : ∀ (n : Nat) (v0 : Int32) (v1 : Int32) (v2 : Mem), KS SB2 M0 v2 → Fr SB2 M0 (mX7_layOrders_l30 135 ih5 n v0 v1 v2) := by
  intro n
  induction n with
  | zero => intro v0 v1 v2 h; exact Fr.n
  | succ n IH => intro v0 v1 v2 h; exact fX7_layOrders_b30  hih5 IH h
theorem fX7_layOrders_l30 {ih5 : Int32 → Mem → Option (Mem × Unit)} {v0 : Int32} {v1 : Int32} {v2 : Mem} (hih5 : ∀ (u0 : Int32) (u1 : Mem), KS SB2 M0 u1 → Fr SB2 M0 (ih5 u0 u1)) {n : Nat} (h : KS SB2 M0 v2) : Fr SB2 M0 (mX7_layOrders_l30 135 ih5 n v0 v1 v2) := fX7_layOrders_l30_n  hih5 n v0 v1 v2 h
theorem fX7_layOrders_b27 {ih5 : Int32 → Mem → Option (Mem × Unit)} {x1 : Int32} {y1 : Int32} {y2 : Int64} {M : Mem} (hih5 : ∀ (v0 : Int32) (v1 : Mem), KS SB2 M0 v1 → Fr SB2 M0 (ih5 v0 v1)) (hM : KS SB2 M0 M) : Fr SB2 M0 (mX7_layOrders_b27 135 ih5 x1 y1 y2 M) := by
  unfold mX7_layOrders_b27
  exact (Fr.k (Fr.bl hM (fun M11 hM11 => (fX7_layOrders_l30 hih5 hM11))))
theorem fX7_layOrders_b5 {ih5 : Int32 → Mem → Option (Mem × Unit)} {x1 : Int32} {M : Mem} (hih5 : ∀ (v0 : Int32) (v1 : Mem), KS SB2 M0 v1 → Fr SB2 M0 (ih5 v0 v1)) (hM : KS SB2 M0 M) : Fr SB2 M0 (mX7_layOrders_b5 135 ih5 x1 M) := by
  unfold mX7_layOrders_b5
  exact (Fr.i (Fr.ok hM) (Fr.c (fun r6 => (Fr.i (fX7_layOrders_b27 hih5 hM) (fX7_layOrders_b27 hih5 hM)))))
theorem fX7_layOrders_l5_n  : ∀ (n : Nat) (v0 : Int32) (v1 : Mem), KS SB2 M0 v1 → Fr SB2 M0 (mX7_layOrders_l5 135 n v0 v1) := by
  intro n
  induction n with
  | zero => intro v0 v1 h; exact Fr.n
  | succ n IH => intro v0 v1 h; exact fX7_layOrders_b5  IH h
theorem fX7_layOrders_l5  {v0 : Int32} {v1 : Mem} {n : Nat} (h : KS SB2 M0 v1) : Fr SB2 M0 (mX7_layOrders_l5 135 n v0 v1) := fX7_layOrders_l5_n   n v0 v1 h
theorem fX7_layOrders {M : Mem} (hM : KS SB2 M0 M) : Fr SB2 M0 (mX7_layOrders 135 M) := by
  unfold mX7_layOrders
  exact (Fr.c (fun r2 => (fX7_layOrders_l5 hM)))
theorem fX7_layCost_b165 {ih36 : Int32 → Int32 → Int32 → Int32 → Int32 → Mem → Option (Mem × Unit)} {x1 : Int32} {x2 : Int32} {x3 : Int32} {x4 : Int32} {x5 : Int32} {M : Mem} (hih36 : ∀ (v0 : Int32) (v1 : Int32) (v2 : Int32) (v3 : Int32) (v4 : Int32) (v5 : Mem), KS SB2 M0 v5 → Fr SB2 M0 (ih36 v0 v1 v2 v3 v4 v5)) (hM : KS SB2 M0 M) : Fr SB2 M0 (mX7_layCost_b165 135 ih36 x1 x2 x3 x4 x5 M) := by
  unfold mX7_layCost_b165
  exact (Fr.b (fun x5_165 => (hih36 _ _ _ _ _ _ hM)))
theorem fX7_layCost_b117 {ih36 : Int32 → Int32 → Int32 → Int32 → Int32 → Mem → Option (Mem × Unit)} {x1 : Int32} {x2 : Int32} {x3 : Int32} {x4 : Int32} {x5 : Int32} {x6 : Int32} {y0 : Int32} {M : Mem} (hih36 : ∀ (v0 : Int32) (v1 : Int32) (v2 : Int32) (v3 : Int32) (v4 : Int32) (v5 : Mem), KS SB2 M0 v5 → Fr SB2 M0 (ih36 v0 v1 v2 v3 v4 v5)) (hM : KS SB2 M0 M) : Fr SB2 M0 (mX7_layCost_b117 135 ih36 x1 x2 x3 x4 x5 x6 y0 M) := by
  unfold mX7_layCost_b117
  exact (Fr.b (fun x8_131 => (Fr.k (Fr.b (fun x3_147 => (Fr.k (Fr.b (fun x4_163 => (fX7_layCost_b165 hih36 hM)))))))))
theorem fX7_layCost_b36 {ih36 : Int32 → Int32 → Int32 → Int32 → Int32 → Mem → Option (Mem × Unit)} {x1 : Int32} {x2 : Int32} {x3 : Int32} {x4 : Int32} {x5 : Int32} {M : Mem} (hih36 : ∀ (v0 : Int32) (v1 : Int32) (v2 : Int32) (v3 : Int32) (v4 : Int32) (v5 : Mem), KS SB2 M0 v5 → Fr SB2 M0 (ih36 v0 v1 v2 v3 v4 v5)) (hM : KS SB2 M0 M) : Fr SB2 M0 (mX7_layCost_b36 135 ih36 x1 x2 x3 x4 x5 M) := by
  unfold mX7_layCost_b36
  exact (Fr.k (Fr.i (Fr.k (Fr.bw ⟨by decide, fun q => absurd q.1 (by decide)⟩ hM (fun M13 hM13 => (Fr.k (Fr.bw ⟨by decide, fun q => absurd q.1 (by decide)⟩ hM13 (fun M16 hM16 => (Fr.ok hM16))))))) (Fr.k (Fr.i (fX7_layCost_b165 hih36 hM) (Fr.b (fun x6_71 => (Fr.i (fX7_layCost_b117 hih36 hM) (Fr.c (fun r22 => (Fr.k (Fr.c (fun r26 => (fX7_layCost_b117 hih36 hM)))))))))))))
theorem fX7_layCost_l36_n  : ∀ (n : Nat) (v0 : Int32) (v1 : Int32) (v2 : Int32) (v3 : Int32) (v4 : Int32) (v5 : Mem), KS SB2 M0 v5 → Fr SB2 M0 (mX7_layCost_l36 135 n v0 v1 v2 v3 v4 v5) := by
  intro n
  induction n with
  | zero => intro v0 v1 v2 v3 v4 v5 h; exact Fr.n
  | succ n IH => intro v0 v1 v2 v3 v4 v5 h; exact fX7_layCost_b36  IH h
theorem fX7_layCost_l36  {v0 : Int32} {v1 : Int32} {v2 : Int32} {v3 : Int32} {v4 : Int32} {v5 : Mem} {n : Nat} (h : KS SB2 M0 v5) : Fr SB2 M0 (mX7_layCost_l36 135 n v0 v1 v2 v3 v4 v5) := fX7_layCost_l36_n   n v0 v1 v2 v3 v4 v5 h
theorem fX7_layCost_b31 {x1 : Int32} {x2 : Int32} {x3 : Int32} {y0 : Int32} {M : Mem} (hM : KS SB2 M0 M) : Fr SB2 M0 (mX7_layCost_b31 135 x1 x2 x3 y0 M) := by
  unfold mX7_layCost_b31
  exact (fX7_layCost_l36 hM)
theorem fX7_layCost_b15 {x1 : Int32} {x2 : Int32} {y0 : Int32} {M : Mem} (hM : KS SB2 M0 M) : Fr SB2 M0 (mX7_layCost_b15 135 x1 x2 y0 M) := by
  unfold mX7_layCost_b15
  exact (Fr.c (fun r6 => (Fr.i (fX7_layCost_b31 hM) (fX7_layCost_b31 hM))))
theorem fX7_layCost {x1 : Int32} {x2 : Int32} {M : Mem} (hM : KS SB2 M0 M) : Fr SB2 M0 (mX7_layCost 135 x1 x2 M) := by
  unfold mX7_layCost
  exact (Fr.c (fun r2 => (Fr.i (fX7_layCost_b15 hM) (fX7_layCost_b15 hM))))
theorem fX7_layCosts_b127 {ih67 : Int32 → Mem → Option (Mem × Unit)} {x1 : Int32} {M : Mem} (hih67 : ∀ (v0 : Int32) (v1 : Mem), KS SB2 M0 v1 → Fr SB2 M0 (ih67 v0 v1)) (hM : KS SB2 M0 M) : Fr SB2 M0 (mX7_layCosts_b127 135 ih67 x1 M) := by
  unfold mX7_layCosts_b127
  exact (Fr.b (fun x1_127 => (hih67 _ _ hM)))
theorem fX7_layCosts_b121 {ih67 : Int32 → Mem → Option (Mem × Unit)} {ih73 : Int32 → Int32 → Mem → Option (Mem × Unit)} {x1 : Int32} {x2 : Int32} {M : Mem} (hih67 : ∀ (v0 : Int32) (v1 : Mem), KS SB2 M0 v1 → Fr SB2 M0 (ih67 v0 v1)) (hih73 : ∀ (v0 : Int32) (v1 : Int32) (v2 : Mem), KS SB2 M0 v2 → Fr SB2 M0 (ih73 v0 v1 v2)) (hM : KS SB2 M0 M) : Fr SB2 M0 (mX7_layCosts_b121 135 ih67 ih73 x1 x2 M) := by
  unfold mX7_layCosts_b121
  exact (Fr.b (fun x2_121 => (hih73 _ _ _ hM)))
theorem fX7_layCosts_b115 {ih67 : Int32 → Mem → Option (Mem × Unit)} {ih73 : Int32 → Int32 → Mem → Option (Mem × Unit)} {x1 : Int32} {x2 : Int32} {M : Mem} (hih67 : ∀ (v0 : Int32) (v1 : Mem), KS SB2 M0 v1 → Fr SB2 M0 (ih67 v0 v1)) (hih73 : ∀ (v0 : Int32) (v1 : Int32) (v2 : Mem), KS SB2 M0 v2 → Fr SB2 M0 (ih73 v0 v1 v2)) (hM : KS SB2 M0 M) : Fr SB2 M0 (mX7_layCosts_b115 135 ih67 ih73 x1 x2 M) := by
  unfold mX7_layCosts_b115
  exact (Fr.m (fX7_layCost hM) (fun M21 _ hM21 => (fX7_layCosts_b121 hih67 hih73 hM21)))
theorem fX7_layCosts_b73 {ih67 : Int32 → Mem → Option (Mem × Unit)} {ih73 : Int32 → Int32 → Mem → Option (Mem × Unit)} {x1 : Int32} {x2 : Int32} {M : Mem} (hih67 : ∀ (v0 : Int32) (v1 : Mem), KS SB2 M0 v1 → Fr SB2 M0 (ih67 v0 v1)) (hih73 : ∀ (v0 : Int32) (v1 : Int32) (v2 : Mem), KS SB2 M0 v2 → Fr SB2 M0 (ih73 v0 v1 v2)) (hM : KS SB2 M0 M) : Fr SB2 M0 (mX7_layCosts_b73 135 ih67 ih73 x1 x2 M) := by
  unfold mX7_layCosts_b73
  exact (Fr.i (fX7_layCosts_b127 hih67 hM) (Fr.c (fun r15 => (Fr.i (fX7_layCosts_b127 hih67 hM) (Fr.i (fX7_layCosts_b115 hih67 hih73 hM) (Fr.k (Fr.i (fX7_layCosts_b121 hih67 hih73 hM) (Fr.c (fun r26 => (Fr.i (fX7_layCosts_b121 hih67 hih73 hM) (fX7_layCosts_b115 hih67 hih73 hM)))))))))))
theorem fX7_layCosts_l73_n {ih67 : Int32 → Mem → Option (Mem × Unit)} (hih67 : ∀ (u0 : Int32) (u1 : Mem), KS SB2 M0 u1 → Fr SB2 M0 (ih67 u0 u1)) : ∀ (n : Nat) (v0 : Int32) (v1 : Int32) (v2 : Mem), KS SB2 M0 v2 → Fr SB2 M0 (mX7_layCosts_l73 135 ih67 n v0 v1 v2) := by
  intro n
  induction n with
  | zero => intro v0 v1 v2 h; exact Fr.n
  | succ n IH => intro v0 v1 v2 h; exact fX7_layCosts_b73  hih67 IH h
theorem fX7_layCosts_l73 {ih67 : Int32 → Mem → Option (Mem × Unit)} {v0 : Int32} {v1 : Int32} {v2 : Mem} (hih67 : ∀ (u0 : Int32) (u1 : Mem), KS SB2 M0 u1 → Fr SB2 M0 (ih67 u0 u1)) {n : Nat} (h : KS SB2 M0 v2) : Fr SB2 M0 (mX7_layCosts_l73 135 ih67 n v0 v1 v2) := fX7_layCosts_l73_n  hih67 n v0 v1 v2 h
theorem fX7_layCosts_b67 {ih67 : Int32 → Mem → Option (Mem × Unit)} {x1 : Int32} {M : Mem} (hih67 : ∀ (v0 : Int32) (v1 : Mem), KS SB2 M0 v1 → Fr SB2 M0 (ih67 v0 v1)) (hM : KS SB2 M0 M) : Fr SB2 M0 (mX7_layCosts_b67 135 ih67 x1 M) := by
  unfold mX7_layCosts_b67
  exact (Fr.i (Fr.ok hM) (fX7_layCosts_l73 hih67 hM))
theorem fX7_layCosts_l67_n  : ∀ (n : Nat) (v0 : Int32) (v1 : Mem), KS SB2 M0 v1 → Fr SB2 M0 (mX7_layCosts_l67 135 n v0 v1) := by
  intro n
  induction n with
  | zero => intro v0 v1 h; exact Fr.n
  | succ n IH => intro v0 v1 h; exact fX7_layCosts_b67  IH h
theorem fX7_layCosts_l67  {v0 : Int32} {v1 : Mem} {n : Nat} (h : KS SB2 M0 v1) : Fr SB2 M0 (mX7_layCosts_l67 135 n v0 v1) := fX7_layCosts_l67_n   n v0 v1 h
theorem fX7_layCosts_b16 {ih6 : Int32 → Mem → Option (Mem × Unit)} {ih16 : Int32 → Int32 → Mem → Option (Mem × Unit)} {x1 : Int32} {x2 : Int32} {M : Mem} (hih6 : ∀ (v0 : Int32) (v1 : Mem), KS SB2 M0 v1 → Fr SB2 M0 (ih6 v0 v1)) (hih16 : ∀ (v0 : Int32) (v1 : Int32) (v2 : Mem), KS SB2 M0 v2 → Fr SB2 M0 (ih16 v0 v1 v2)) (hM : KS SB2 M0 M) : Fr SB2 M0 (mX7_layCosts_b16 135 ih6 ih16 x1 x2 M) := by
  unfold mX7_layCosts_b16
  exact (Fr.k (Fr.i (Fr.b (fun x1_56 => (hih6 _ _ hM))) (Fr.m (fX7_gaugeOf hM) (fun M34 r33 hM34 => (Fr.k (Fr.bw ⟨by decide, fun q => absurd q.1 (by decide)⟩ hM34 (fun M37 hM37 => (Fr.b (fun x2_50 => (hih16 _ _ _ hM37))))))))))
theorem fX7_layCosts_l16_n {ih6 : Int32 → Mem → Option (Mem × Unit)} (hih6 : ∀ (u0 : Int32) (u1 : Mem), KS SB2 M0 u1 → Fr SB2 M0 (ih6 u0 u1)) : ∀ (n : Nat) (v0 : Int32) (v1 : Int32) (v2 : Mem), KS SB2 M0 v2 → Fr SB2 M0 (mX7_layCosts_l16 135 ih6 n v0 v1 v2) := by
  intro n
  induction n with
  | zero => intro v0 v1 v2 h; exact Fr.n
  | succ n IH => intro v0 v1 v2 h; exact fX7_layCosts_b16  hih6 IH h
theorem fX7_layCosts_l16 {ih6 : Int32 → Mem → Option (Mem × Unit)} {v0 : Int32} {v1 : Int32} {v2 : Mem} (hih6 : ∀ (u0 : Int32) (u1 : Mem), KS SB2 M0 u1 → Fr SB2 M0 (ih6 u0 u1)) {n : Nat} (h : KS SB2 M0 v2) : Fr SB2 M0 (mX7_layCosts_l16 135 ih6 n v0 v1 v2) := fX7_layCosts_l16_n  hih6 n v0 v1 v2 h
theorem fX7_layCosts_b6 {ih6 : Int32 → Mem → Option (Mem × Unit)} {x1 : Int32} {M : Mem} (hih6 : ∀ (v0 : Int32) (v1 : Mem), KS SB2 M0 v1 → Fr SB2 M0 (ih6 v0 v1)) (hM : KS SB2 M0 M) : Fr SB2 M0 (mX7_layCosts_b6 135 ih6 x1 M) := by
  unfold mX7_layCosts_b6
  exact (Fr.c (fun r5 => (Fr.i (Fr.c (fun r9 => (fX7_layCosts_l67 hM))) (fX7_layCosts_l16 hih6 hM))))
theorem fX7_layCosts_l6_n  : ∀ (n : Nat) (v0 : Int32) (v1 : Mem), KS SB2 M0 v1 → Fr SB2 M0 (mX7_layCosts_l6 135 n v0 v1) := by
  intro n
  induction n with
  | zero => intro v0 v1 h; exact Fr.n
  | succ n IH => intro v0 v1 h; exact fX7_layCosts_b6  IH h
theorem fX7_layCosts_l6  {v0 : Int32} {v1 : Mem} {n : Nat} (h : KS SB2 M0 v1) : Fr SB2 M0 (mX7_layCosts_l6 135 n v0 v1) := fX7_layCosts_l6_n   n v0 v1 h
theorem fX7_layCosts {M : Mem} (hM : KS SB2 M0 M) : Fr SB2 M0 (mX7_layCosts 135 M) := by
  unfold mX7_layCosts
  exact (Fr.m (fX7_layOrders hM) (fun M3 _ hM3 => (fX7_layCosts_l6 hM3)))
theorem fX7_orders {M : Mem} (hM : KS SB2 M0 M) : Fr SB2 M0 (mX7_orders 135 M) := by
  unfold mX7_orders
  exact (Fr.bw (by decide) hM (fun M1 hM1 => (Fr.m (fX7_layOrders hM1) (fun M5 _ hM5 => (Fr.k (Fr.k (Fr.ok hM5)))))))
theorem fX7_leastNow {M : Mem} (hM : KS SB2 M0 M) : Fr SB2 M0 (mX7_leastNow 135 M) := by
  unfold mX7_leastNow
  exact (Fr.m (fX7_layCosts hM) (fun M3 _ hM3 => (Fr.c (fun r5 => (Fr.i (Fr.ok hM3) (Fr.k (Fr.c (fun r10 => (Fr.k (Fr.ok hM3))))))))))
theorem fX7_leastCost {M : Mem} (hM : KS SB2 M0 M) : Fr SB2 M0 (mX7_leastCost 135 M) := by
  unfold mX7_leastCost
  exact (Fr.bw (by decide) hM (fun M1 hM1 => (Fr.m (fX7_leastNow hM1) (fun M5 r4 hM5 => (Fr.ok hM5)))))
theorem fX7_plannedSteps {M : Mem} (hM : KS SB2 M0 M) : Fr SB2 M0 (mX7_plannedSteps 135 M) := by
  unfold mX7_plannedSteps
  exact (Fr.bw (by decide) hM (fun M1 hM1 => (Fr.m (fX7_layOrders hM1) (fun M5 _ hM5 => (Fr.c (fun r7 => (Fr.i (Fr.ok hM5) (Fr.c (fun r11 => (Fr.ok hM5))))))))))
theorem fX7_planned_b57 {ih57 : Int32 → Int32 → Int32 → Int32 → Mem → Option (Mem × Int32)} {x1 : Int32} {x2 : Int32} {x3 : Int32} {x4 : Int32} {M : Mem} (hih57 : ∀ (v0 : Int32) (v1 : Int32) (v2 : Int32) (v3 : Int32) (v4 : Mem), KS SB2 M0 v4 → Fr SB2 M0 (ih57 v0 v1 v2 v3 v4)) (hM : KS SB2 M0 M) : Fr SB2 M0 (mX7_planned_b57 135 ih57 x1 x2 x3 x4 M) := by
  unfold mX7_planned_b57
  exact (Fr.i (Fr.ok hM) (Fr.c (fun r19 => (Fr.b (fun x2_77 => (Fr.b (fun x4_78 => (hih57 _ _ _ _ _ hM))))))))
theorem fX7_planned_l57_n  : ∀ (n : Nat) (v0 : Int32) (v1 : Int32) (v2 : Int32) (v3 : Int32) (v4 : Mem), KS SB2 M0 v4 → Fr SB2 M0 (mX7_planned_l57 135 n v0 v1 v2 v3 v4) := by
  intro n
  induction n with
  | zero => intro v0 v1 v2 v3 v4 h; exact Fr.n
  | succ n IH => intro v0 v1 v2 v3 v4 h; exact fX7_planned_b57  IH h
theorem fX7_planned_l57  {v0 : Int32} {v1 : Int32} {v2 : Int32} {v3 : Int32} {v4 : Mem} {n : Nat} (h : KS SB2 M0 v4) : Fr SB2 M0 (mX7_planned_l57 135 n v0 v1 v2 v3 v4) := fX7_planned_l57_n   n v0 v1 v2 v3 v4 h
theorem fX7_planned_b33 {x1 : Int32} {y1 : Int32} {M : Mem} (hM : KS SB2 M0 M) : Fr SB2 M0 (mX7_planned_b33 135 x1 y1 M) := by
  unfold mX7_planned_b33
  exact (Fr.m (fX7_good hM) (fun M10 r9 hM10 => (Fr.i (Fr.ok hM10) (Fr.k (Fr.b (fun x2_48 => (Fr.c (fun r15 => (fX7_planned_l57 hM10)))))))))
theorem fX7_planned_b32 {x1 : Int32} {M : Mem} (hM : KS SB2 M0 M) : Fr SB2 M0 (mX7_planned_b32 135 x1 M) := by
  unfold mX7_planned_b32
  exact (fX7_planned_b33 hM)
theorem fX7_planned {x1 : Int32} {M : Mem} (hM : KS SB2 M0 M) : Fr SB2 M0 (mX7_planned 135 x1 M) := by
  unfold mX7_planned
  exact (Fr.m (fX7_layCosts hM) (fun M3 _ hM3 => (Fr.c (fun r5 => (Fr.i (fX7_planned_b32 hM3) (Fr.c (fun r24 => (Fr.c (fun r27 => (Fr.i (fX7_planned_b32 hM3) (fX7_planned_b33 hM3)))))))))))
theorem fX7_greatestCost {M : Mem} (hM : KS SB2 M0 M) : Fr SB2 M0 (mX7_greatestCost 135 M) := by
  unfold mX7_greatestCost
  exact (Fr.bw (by decide) hM (fun M1 hM1 => (Fr.m (fX7_layCosts hM1) (fun M5 _ hM5 => (Fr.c (fun r7 => (Fr.i (Fr.ok hM5) (Fr.k (Fr.c (fun r12 => (Fr.k (Fr.ok hM5))))))))))))
theorem fX7_ordersWith {x1 : Int32} {x2 : Int32} {M : Mem} (hM : KS SB2 M0 M) : Fr SB2 M0 (mX7_ordersWith 135 x1 x2 M) := by
  unfold mX7_ordersWith
  exact (Fr.c (fun r2 => (Fr.c (fun r5 => (Fr.m (fX7_good_ hM) (fun M9 r8 hM9 => (Fr.i (Fr.ok hM9) (Fr.m (fX7_layOrders hM9) (fun M13 _ hM13 => (Fr.k (Fr.k (Fr.i (Fr.ok hM13) (Fr.k (Fr.k (Fr.ok hM13)))))))))))))))
theorem fX7_layReached_b107 {ih44 : Int32 → Mem → Option (Mem × Unit)} {x1 : Int32} {M : Mem} (hih44 : ∀ (v0 : Int32) (v1 : Mem), KS SB2 M0 v1 → Fr SB2 M0 (ih44 v0 v1)) (hM : KS SB2 M0 M) : Fr SB2 M0 (mX7_layReached_b107 135 ih44 x1 M) := by
  unfold mX7_layReached_b107
  exact (Fr.b (fun x1_107 => (hih44 _ _ hM)))
theorem fX7_layReached_b54 {ih44 : Int32 → Mem → Option (Mem × Unit)} {ih54 : Int32 → Int32 → Mem → Option (Mem × Unit)} {x1 : Int32} {x2 : Int32} {M : Mem} (hih44 : ∀ (v0 : Int32) (v1 : Mem), KS SB2 M0 v1 → Fr SB2 M0 (ih44 v0 v1)) (hih54 : ∀ (v0 : Int32) (v1 : Int32) (v2 : Mem), KS SB2 M0 v2 → Fr SB2 M0 (ih54 v0 v1 v2)) (hM : KS SB2 M0 M) : Fr SB2 M0 (mX7_layReached_b54 135 ih44 ih54 x1 x2 M) := by
  unfold mX7_layReached_b54
  exact (Fr.k (Fr.i (fX7_layReached_b107 hih44 hM) (Fr.k (Fr.i (fX7_layReached_b107 hih44 hM) (Fr.k (Fr.k (Fr.k (Fr.bw ⟨by decide, fun q => absurd q.1 (by decide)⟩ hM (fun M21 hM21 => (Fr.b (fun x2_101 => (hih54 _ _ _ hM21))))))))))))
theorem fX7_layReached_l54_n {ih44 : Int32 → Mem → Option (Mem × Unit)} (hih44 : ∀ (u0 : Int32) (u1 : Mem), KS SB2 M0 u1 → Fr SB2 M0 (ih44 u0 u1)) : ∀ (n : Nat) (v0 : Int32) (v1 : Int32) (v2 : Mem), KS SB2 M0 v2 → Fr SB2 M0 (mX7_layReached_l54 135 ih44 n v0 v1 v2) := by
  intro n
  induction n with
  | zero => intro v0 v1 v2 h; exact Fr.n
  | succ n IH => intro v0 v1 v2 h; exact fX7_layReached_b54  hih44 IH h
theorem fX7_layReached_l54 {ih44 : Int32 → Mem → Option (Mem × Unit)} {v0 : Int32} {v1 : Int32} {v2 : Mem} (hih44 : ∀ (u0 : Int32) (u1 : Mem), KS SB2 M0 u1 → Fr SB2 M0 (ih44 u0 u1)) {n : Nat} (h : KS SB2 M0 v2) : Fr SB2 M0 (mX7_layReached_l54 135 ih44 n v0 v1 v2) := fX7_layReached_l54_n  hih44 n v0 v1 v2 h
theorem fX7_layReached_b44 {ih44 : Int32 → Mem → Option (Mem × Unit)} {x1 : Int32} {M : Mem} (hih44 : ∀ (v0 : Int32) (v1 : Mem), KS SB2 M0 v1 → Fr SB2 M0 (ih44 v0 v1)) (hM : KS SB2 M0 M) : Fr SB2 M0 (mX7_layReached_b44 135 ih44 x1 M) := by
  unfold mX7_layReached_b44
  exact (Fr.c (fun r9 => (Fr.i (Fr.ok hM) (fX7_layReached_l54 hih44 hM))))
theorem fX7_layReached_l44_n  : ∀ (n : Nat) (v0 : Int32) (v1 : Mem), KS SB2 M0 v1 → Fr SB2 M0 (mX7_layReached_l44 135 n v0 v1) := by
  intro n
  induction n with
  | zero => intro v0 v1 h; exact Fr.n
  | succ n IH => intro v0 v1 h; exact fX7_layReached_b44  IH h
theorem fX7_layReached_l44  {v0 : Int32} {v1 : Mem} {n : Nat} (h : KS SB2 M0 v1) : Fr SB2 M0 (mX7_layReached_l44 135 n v0 v1) := fX7_layReached_l44_n   n v0 v1 h
theorem fX7_layReached_b35 {ih6 : Int32 → Mem → Option (Mem × Unit)} {x1 : Int32} {y1 : Int32} {y2 : Int32} {M : Mem} (hih6 : ∀ (v0 : Int32) (v1 : Mem), KS SB2 M0 v1 → Fr SB2 M0 (ih6 v0 v1)) (hM : KS SB2 M0 M) : Fr SB2 M0 (mX7_layReached_b35 135 ih6 x1 y1 y2 M) := by
  unfold mX7_layReached_b35
  exact (Fr.k (Fr.bw ⟨by decide, fun q => absurd q.1 (by decide)⟩ hM (fun M27 hM27 => (Fr.b (fun x1_36 => (hih6 _ _ hM27))))))
theorem fX7_layReached_b6 {ih6 : Int32 → Mem → Option (Mem × Unit)} {x1 : Int32} {M : Mem} (hih6 : ∀ (v0 : Int32) (v1 : Mem), KS SB2 M0 v1 → Fr SB2 M0 (ih6 v0 v1)) (hM : KS SB2 M0 M) : Fr SB2 M0 (mX7_layReached_b6 135 ih6 x1 M) := by
  unfold mX7_layReached_b6
  exact (Fr.c (fun r5 => (Fr.i (fX7_layReached_l44 hM) (Fr.k (Fr.i (fX7_layReached_b35 hih6 hM) (fX7_layReached_b35 hih6 hM))))))
theorem fX7_layReached_l6_n  : ∀ (n : Nat) (v0 : Int32) (v1 : Mem), KS SB2 M0 v1 → Fr SB2 M0 (mX7_layReached_l6 135 n v0 v1) := by
  intro n
  induction n with
  | zero => intro v0 v1 h; exact Fr.n
  | succ n IH => intro v0 v1 h; exact fX7_layReached_b6  IH h
theorem fX7_layReached_l6  {v0 : Int32} {v1 : Mem} {n : Nat} (h : KS SB2 M0 v1) : Fr SB2 M0 (mX7_layReached_l6 135 n v0 v1) := fX7_layReached_l6_n   n v0 v1 h
theorem fX7_layReached {M : Mem} (hM : KS SB2 M0 M) : Fr SB2 M0 (mX7_layReached 135 M) := by
  unfold mX7_layReached
  exact (Fr.m (fX7_layOrders hM) (fun M3 _ hM3 => (fX7_layReached_l6 hM3)))
theorem fX7_lastSteps_b69 {ih13 : Int32 → Int32 → Mem → Option (Mem × Int32)} {x2 : Int32} {y0 : Int32} {y1 : Int32} {M : Mem} (hih13 : ∀ (v0 : Int32) (v1 : Int32) (v2 : Mem), KS SB2 M0 v2 → Fr SB2 M0 (ih13 v0 v1 v2)) (hM : KS SB2 M0 M) : Fr SB2 M0 (mX7_lastSteps_b69 135 ih13 x2 y0 y1 M) := by
  unfold mX7_lastSteps_b69
  exact (Fr.b (fun x1_70 => (Fr.b (fun x2_71 => (hih13 _ _ _ hM)))))
theorem fX7_lastSteps_b68 {ih13 : Int32 → Int32 → Mem → Option (Mem × Int32)} {x2 : Int32} {y0 : Int32} {M : Mem} (hih13 : ∀ (v0 : Int32) (v1 : Int32) (v2 : Mem), KS SB2 M0 v2 → Fr SB2 M0 (ih13 v0 v1 v2)) (hM : KS SB2 M0 M) : Fr SB2 M0 (mX7_lastSteps_b68 135 ih13 x2 y0 M) := by
  unfold mX7_lastSteps_b68
  exact (fX7_lastSteps_b69 hih13 hM)
theorem fX7_lastSteps_b13 {ih13 : Int32 → Int32 → Mem → Option (Mem × Int32)} {x1 : Int32} {x2 : Int32} {M : Mem} (hih13 : ∀ (v0 : Int32) (v1 : Int32) (v2 : Mem), KS SB2 M0 v2 → Fr SB2 M0 (ih13 v0 v1 v2)) (hM : KS SB2 M0 M) : Fr SB2 M0 (mX7_lastSteps_b13 135 ih13 x1 x2 M) := by
  unfold mX7_lastSteps_b13
  exact (Fr.k (Fr.i (Fr.ok hM) (Fr.c (fun r9 => (Fr.b (fun x3_37 => (Fr.k (Fr.i (fX7_lastSteps_b68 hih13 hM) (Fr.k (Fr.i (fX7_lastSteps_b68 hih13 hM) (fX7_lastSteps_b69 hih13 hM)))))))))))
theorem fX7_lastSteps_l13_n  : ∀ (n : Nat) (v0 : Int32) (v1 : Int32) (v2 : Mem), KS SB2 M0 v2 → Fr SB2 M0 (mX7_lastSteps_l13 135 n v0 v1 v2) := by
  intro n
  induction n with
  | zero => intro v0 v1 v2 h; exact Fr.n
  | succ n IH => intro v0 v1 v2 h; exact fX7_lastSteps_b13  IH h
theorem fX7_lastSteps_l13  {v0 : Int32} {v1 : Int32} {v2 : Mem} {n : Nat} (h : KS SB2 M0 v2) : Fr SB2 M0 (mX7_lastSteps_l13 135 n v0 v1 v2) := fX7_lastSteps_l13_n   n v0 v1 v2 h
theorem fX7_lastSteps {M : Mem} (hM : KS SB2 M0 M) : Fr SB2 M0 (mX7_lastSteps 135 M) := by
  unfold mX7_lastSteps
  exact (Fr.bw (by decide) hM (fun M1 hM1 => (Fr.m (fX7_layReached hM1) (fun M5 _ hM5 => (fX7_lastSteps_l13 hM5)))))
theorem fX7_mostBends_b93 {ih13 : Int32 → Int32 → Mem → Option (Mem × Int32)} {x2 : Int32} {y0 : Int32} {M : Mem} (hih13 : ∀ (v0 : Int32) (v1 : Int32) (v2 : Mem), KS SB2 M0 v2 → Fr SB2 M0 (ih13 v0 v1 v2)) (hM : KS SB2 M0 M) : Fr SB2 M0 (mX7_mostBends_b93 135 ih13 x2 y0 M) := by
  unfold mX7_mostBends_b93
  exact (Fr.b (fun x2_94 => (hih13 _ _ _ hM)))
theorem fX7_mostBends_b67 {ih13 : Int32 → Int32 → Mem → Option (Mem × Int32)} {ih26 : Int32 → Int32 → Int32 → Int32 → Mem → Option (Mem × Int32)} {x1 : Int32} {x2 : Int32} {x4 : Int32} {y0 : Int32} {y1 : Int32} {M : Mem} (hih13 : ∀ (v0 : Int32) (v1 : Int32) (v2 : Mem), KS SB2 M0 v2 → Fr SB2 M0 (ih13 v0 v1 v2)) (hih26 : ∀ (v0 : Int32) (v1 : Int32) (v2 : Int32) (v3 : Int32) (v4 : Mem), KS SB2 M0 v4 → Fr SB2 M0 (ih26 v0 v1 v2 v3 v4)) (hM : KS SB2 M0 M) : Fr SB2 M0 (mX7_mostBends_b67 135 ih13 ih26 x1 x2 x4 y0 y1 M) := by
  unfold mX7_mostBends_b67
  exact (Fr.b (fun x3_68 => (Fr.b (fun x4_69 => (hih26 _ _ _ _ _ hM)))))
theorem fX7_mostBends_b66 {ih13 : Int32 → Int32 → Mem → Option (Mem × Int32)} {ih26 : Int32 → Int32 → Int32 → Int32 → Mem → Option (Mem × Int32)} {x1 : Int32} {x2 : Int32} {x4 : Int32} {y0 : Int32} {M : Mem} (hih13 : ∀ (v0 : Int32) (v1 : Int32) (v2 : Mem), KS SB2 M0 v2 → Fr SB2 M0 (ih13 v0 v1 v2)) (hih26 : ∀ (v0 : Int32) (v1 : Int32) (v2 : Int32) (v3 : Int32) (v4 : Mem), KS SB2 M0 v4 → Fr SB2 M0 (ih26 v0 v1 v2 v3 v4)) (hM : KS SB2 M0 M) : Fr SB2 M0 (mX7_mostBends_b66 135 ih13 ih26 x1 x2 x4 y0 M) := by
  unfold mX7_mostBends_b66
  exact (fX7_mostBends_b67 hih13 hih26 hM)
theorem fX7_mostBends_b26 {ih13 : Int32 → Int32 → Mem → Option (Mem × Int32)} {ih26 : Int32 → Int32 → Int32 → Int32 → Mem → Option (Mem × Int32)} {x1 : Int32} {x2 : Int32} {x3 : Int32} {x4 : Int32} {M : Mem} (hih13 : ∀ (v0 : Int32) (v1 : Int32) (v2 : Mem), KS SB2 M0 v2 → Fr SB2 M0 (ih13 v0 v1 v2)) (hih26 : ∀ (v0 : Int32) (v1 : Int32) (v2 : Int32) (v3 : Int32) (v4 : Mem), KS SB2 M0 v4 → Fr SB2 M0 (ih26 v0 v1 v2 v3 v4)) (hM : KS SB2 M0 M) : Fr SB2 M0 (mX7_mostBends_b26 135 ih13 ih26 x1 x2 x3 x4 M) := by
  unfold mX7_mostBends_b26
  exact (Fr.k (Fr.i (Fr.k (Fr.i (fX7_mostBends_b93 hih13 hM) (fX7_mostBends_b93 hih13 hM))) (Fr.c (fun r16 => (Fr.i (fX7_mostBends_b66 hih13 hih26 hM) (Fr.k (Fr.c (fun r23 => (Fr.i (fX7_mostBends_b67 hih13 hih26 hM) (fX7_mostBends_b66 hih13 hih26 hM))))))))))
theorem fX7_mostBends_l26_n {ih13 : Int32 → Int32 → Mem → Option (Mem × Int32)} (hih13 : ∀ (u0 : Int32) (u1 : Int32) (u2 : Mem), KS SB2 M0 u2 → Fr SB2 M0 (ih13 u0 u1 u2)) : ∀ (n : Nat) (v0 : Int32) (v1 : Int32) (v2 : Int32) (v3 : Int32) (v4 : Mem), KS SB2 M0 v4 → Fr SB2 M0 (mX7_mostBends_l26 135 ih13 n v0 v1 v2 v3 v4) := by
  intro n
  induction n with
  | zero => intro v0 v1 v2 v3 v4 h; exact Fr.n
  | succ n IH => intro v0 v1 v2 v3 v4 h; exact fX7_mostBends_b26  hih13 IH h
theorem fX7_mostBends_l26 {ih13 : Int32 → Int32 → Mem → Option (Mem × Int32)} {v0 : Int32} {v1 : Int32} {v2 : Int32} {v3 : Int32} {v4 : Mem} (hih13 : ∀ (u0 : Int32) (u1 : Int32) (u2 : Mem), KS SB2 M0 u2 → Fr SB2 M0 (ih13 u0 u1 u2)) {n : Nat} (h : KS SB2 M0 v4) : Fr SB2 M0 (mX7_mostBends_l26 135 ih13 n v0 v1 v2 v3 v4) := fX7_mostBends_l26_n  hih13 n v0 v1 v2 v3 v4 h
theorem fX7_mostBends_b13 {ih13 : Int32 → Int32 → Mem → Option (Mem × Int32)} {x1 : Int32} {x2 : Int32} {M : Mem} (hih13 : ∀ (v0 : Int32) (v1 : Int32) (v2 : Mem), KS SB2 M0 v2 → Fr SB2 M0 (ih13 v0 v1 v2)) (hM : KS SB2 M0 M) : Fr SB2 M0 (mX7_mostBends_b13 135 ih13 x1 x2 M) := by
  unfold mX7_mostBends_b13
  exact (Fr.c (fun r7 => (Fr.i (Fr.ok hM) (fX7_mostBends_l26 hih13 hM))))
theorem fX7_mostBends_l13_n  : ∀ (n : Nat) (v0 : Int32) (v1 : Int32) (v2 : Mem), KS SB2 M0 v2 → Fr SB2 M0 (mX7_mostBends_l13 135 n v0 v1 v2) := by
  intro n
  induction n with
  | zero => intro v0 v1 v2 h; exact Fr.n
  | succ n IH => intro v0 v1 v2 h; exact fX7_mostBends_b13  IH h
theorem fX7_mostBends_l13  {v0 : Int32} {v1 : Int32} {v2 : Mem} {n : Nat} (h : KS SB2 M0 v2) : Fr SB2 M0 (mX7_mostBends_l13 135 n v0 v1 v2) := fX7_mostBends_l13_n   n v0 v1 v2 h
theorem fX7_mostBends {M : Mem} (hM : KS SB2 M0 M) : Fr SB2 M0 (mX7_mostBends 135 M) := by
  unfold mX7_mostBends
  exact (Fr.bw (by decide) hM (fun M1 hM1 => (Fr.m (fX7_layReached hM1) (fun M5 _ hM5 => (fX7_mostBends_l13 hM5)))))
theorem fX7_greatestBeam_b59 {x1 : Int32} {x2 : Int32} {M : Mem} (hM : KS SB2 M0 M) : Fr SB2 M0 (mX7_greatestBeam_b59 135 x1 x2 M) := by
  unfold mX7_greatestBeam_b59
  exact (Fr.k (Fr.bw ⟨by decide, fun q => absurd q.1 (by decide)⟩ hM (fun M8 hM8 => (Fr.ok hM8))))
theorem fX7_greatestBeam_b52 {ih19 : Int32 → Int32 → Int32 → Mem → Option (Mem × Int32)} {x1 : Int32} {x3 : Int32} {y0 : Int32} {M : Mem} (hih19 : ∀ (v0 : Int32) (v1 : Int32) (v2 : Int32) (v3 : Mem), KS SB2 M0 v3 → Fr SB2 M0 (ih19 v0 v1 v2 v3)) (hM : KS SB2 M0 M) : Fr SB2 M0 (mX7_greatestBeam_b52 135 ih19 x1 x3 y0 M) := by
  unfold mX7_greatestBeam_b52
  exact (Fr.b (fun x3_53 => (hih19 _ _ _ _ hM)))
theorem fX7_greatestBeam_b19 {ih19 : Int32 → Int32 → Int32 → Mem → Option (Mem × Int32)} {x1 : Int32} {x2 : Int32} {x3 : Int32} {M : Mem} (hih19 : ∀ (v0 : Int32) (v1 : Int32) (v2 : Int32) (v3 : Mem), KS SB2 M0 v3 → Fr SB2 M0 (ih19 v0 v1 v2 v3)) (hM : KS SB2 M0 M) : Fr SB2 M0 (mX7_greatestBeam_b19 135 ih19 x1 x2 x3 M) := by
  unfold mX7_greatestBeam_b19
  exact (Fr.i (fX7_greatestBeam_b59 hM) (Fr.i (Fr.k (Fr.bw ⟨by decide, fun q => absurd q.1 (by decide)⟩ hM (fun M12 hM12 => (Fr.m (fX7_layOrders hM12) (fun M15 _ hM15 => (Fr.c (fun r17 => (Fr.i (fX7_greatestBeam_b52 hih19 hM15) (fX7_greatestBeam_b52 hih19 hM15))))))))) (fX7_greatestBeam_b59 hM)))
theorem fX7_greatestBeam_l19_n  : ∀ (n : Nat) (v0 : Int32) (v1 : Int32) (v2 : Int32) (v3 : Mem), KS SB2 M0 v3 → Fr SB2 M0 (mX7_greatestBeam_l19 135 n v0 v1 v2 v3) := by
  intro n
  induction n with
  | zero => intro v0 v1 v2 v3 h; exact Fr.n
  | succ n IH => intro v0 v1 v2 v3 h; exact fX7_greatestBeam_b19  IH h
theorem fX7_greatestBeam_l19  {v0 : Int32} {v1 : Int32} {v2 : Int32} {v3 : Mem} {n : Nat} (h : KS SB2 M0 v3) : Fr SB2 M0 (mX7_greatestBeam_l19 135 n v0 v1 v2 v3) := fX7_greatestBeam_l19_n   n v0 v1 v2 v3 h
theorem fX7_greatestBeam {M : Mem} (hM : KS SB2 M0 M) : Fr SB2 M0 (mX7_greatestBeam 135 M) := by
  unfold mX7_greatestBeam
  exact (Fr.bw (by decide) hM (fun M1 hM1 => (Fr.k (Fr.b (fun x1_12 => (fX7_greatestBeam_l19 hM1))))))
theorem fX7_costIfTurned_b21 {x1 : Int32} {y1 : Int32} {y2 : Int32} {M : Mem} (hM : KS SB2 M0 M) : Fr SB2 M0 (mX7_costIfTurned_b21 135 x1 y1 y2 M) := by
  unfold mX7_costIfTurned_b21
  exact (Fr.m (fX7_good_ hM) (fun M8 r7 hM8 => (Fr.i (Fr.ok hM8) (Fr.k (Fr.k (Fr.bw ⟨by decide, fun q => absurd q.1 (by decide)⟩ hM8 (fun M13 hM13 => (Fr.m (fX7_leastNow hM13) (fun M16 r15 hM16 => (Fr.k (Fr.k (Fr.bw ⟨by decide, fun q => absurd q.1 (by decide)⟩ hM16 (fun M20 hM20 => (Fr.ok hM20))))))))))))))
theorem fX7_costIfTurned {x1 : Int32} {M : Mem} (hM : KS SB2 M0 M) : Fr SB2 M0 (mX7_costIfTurned 135 x1 M) := by
  unfold mX7_costIfTurned
  exact (Fr.c (fun r2 => (Fr.k (Fr.i (fX7_costIfTurned_b21 hM) (fX7_costIfTurned_b21 hM)))))
theorem fX7_foldNow {x1 : Int32} {x2 : Int32} {M : Mem} (hM : KS SB2 M0 M) : Fr SB2 M0 (mX7_foldNow 135 x1 x2 M) := by
  unfold mX7_foldNow
  exact (Fr.m (fX7_costNow hM) (fun M3 r2 hM3 => (Fr.k (Fr.m (fX7_gaugeOf hM3) (fun M7 r6 hM7 => (Fr.m (fX7_remember hM7) (fun M10 _ hM10 => (Fr.k (Fr.b (fun x5_38 => (Fr.k (Fr.bw ⟨by decide, fun q => absurd q.1 (by decide)⟩ hM10 (fun M15 hM15 => (Fr.k (Fr.bw ⟨by decide, fun q => absurd q.1 (by decide)⟩ hM15 (fun M18 hM18 => (Fr.k (Fr.bw ⟨by decide, fun q => absurd q.1 (by decide)⟩ hM18 (fun M21 hM21 => (Fr.k (Fr.bw ⟨by decide, fun q => absurd q.1 (by decide)⟩ hM21 (fun M24 hM24 => (Fr.k (Fr.k (Fr.bw ⟨by decide, fun q => absurd q.1 (by decide)⟩ hM24 (fun M28 hM28 => (Fr.k (Fr.k (Fr.bw ⟨by decide, fun q => absurd q.1 (by decide)⟩ hM28 (fun M32 hM32 => (Fr.ok hM32)))))))))))))))))))))))))))))))
theorem fX7_fold_b46 {x1 : Int32} {x2 : Int32} {y1 : Int32} {y2 : Int32} {y3 : Int32} {M : Mem} (hM : KS SB2 M0 M) : Fr SB2 M0 (mX7_fold_b46 135 x1 x2 y1 y2 y3 M) := by
  unfold mX7_fold_b46
  exact (Fr.m (fX7_good__ hM) (fun M10 r9 hM10 => (Fr.i (Fr.ok hM10) (Fr.m (fX7_foldNow hM10) (fun M14 r13 hM14 => (Fr.ok hM14))))))
theorem fX7_fold_b45 {x1 : Int32} {x2 : Int32} {y1 : Int32} {y2 : Int32} {M : Mem} (hM : KS SB2 M0 M) : Fr SB2 M0 (mX7_fold_b45 135 x1 x2 y1 y2 M) := by
  unfold mX7_fold_b45
  exact (fX7_fold_b46 hM)
theorem fX7_fold {x1 : Int32} {x2 : Int32} {M : Mem} (hM : KS SB2 M0 M) : Fr SB2 M0 (mX7_fold 135 x1 x2 M) := by
  unfold mX7_fold
  exact (Fr.c (fun r2 => (Fr.c (fun r5 => (Fr.i (fX7_fold_b45 hM) (Fr.i (fX7_fold_b45 hM) (Fr.k (Fr.m (fX7_reasonOf hM) (fun M19 r18 hM19 => (Fr.i (fX7_fold_b46 hM19) (fX7_fold_b45 hM19)))))))))))
theorem fX7_foldNext_b24 {y1 : Int32} {M : Mem} (hM : KS SB2 M0 M) : Fr SB2 M0 (mX7_foldNext_b24 135 y1 M) := by
  unfold mX7_foldNext_b24
  exact (Fr.m (fX7_good hM) (fun M10 r9 hM10 => (Fr.i (Fr.ok hM10) (Fr.k (Fr.c (fun r14 => (Fr.c (fun r17 => (Fr.m (fX7_foldNow hM10) (fun M21 r20 hM21 => (Fr.ok hM21)))))))))))
theorem fX7_foldNext_b23 {M : Mem} (hM : KS SB2 M0 M) : Fr SB2 M0 (mX7_foldNext_b23 135 M) := by
  unfold mX7_foldNext_b23
  exact (fX7_foldNext_b24 hM)
theorem fX7_foldNext {M : Mem} (hM : KS SB2 M0 M) : Fr SB2 M0 (mX7_foldNext 135 M) := by
  unfold mX7_foldNext
  exact (Fr.m (fX7_layCosts hM) (fun M3 _ hM3 => (Fr.c (fun r5 => (Fr.i (fX7_foldNext_b23 hM3) (Fr.c (fun r23 => (Fr.i (fX7_foldNext_b23 hM3) (fX7_foldNext_b24 hM3)))))))))
theorem fX7_unfold_b36 {ih36 : Int32 → Int32 → Mem → Option (Mem × Int32)} {x1 : Int32} {x2 : Int32} {M : Mem} (hih36 : ∀ (v0 : Int32) (v1 : Int32) (v2 : Mem), KS SB2 M0 v2 → Fr SB2 M0 (ih36 v0 v1 v2)) (hM : KS SB2 M0 M) : Fr SB2 M0 (mX7_unfold_b36 135 ih36 x1 x2 M) := by
  unfold mX7_unfold_b36
  exact (Fr.i (Fr.ok hM) (Fr.k (Fr.bw ⟨by decide, fun q => absurd q.1 (by decide)⟩ hM (fun M17 hM17 => (Fr.b (fun x2_49 => (hih36 _ _ _ hM17)))))))
theorem fX7_unfold_l36_n  : ∀ (n : Nat) (v0 : Int32) (v1 : Int32) (v2 : Mem), KS SB2 M0 v2 → Fr SB2 M0 (mX7_unfold_l36 135 n v0 v1 v2) := by
  intro n
  induction n with
  | zero => intro v0 v1 v2 h; exact Fr.n
  | succ n IH => intro v0 v1 v2 h; exact fX7_unfold_b36  IH h
theorem fX7_unfold_l36  {v0 : Int32} {v1 : Int32} {v2 : Mem} {n : Nat} (h : KS SB2 M0 v2) : Fr SB2 M0 (mX7_unfold_l36 135 n v0 v1 v2) := fX7_unfold_l36_n   n v0 v1 v2 h
theorem fX7_unfold {M : Mem} (hM : KS SB2 M0 M) : Fr SB2 M0 (mX7_unfold 135 M) := by
  unfold mX7_unfold
  exact (Fr.bw (by decide) hM (fun M1 hM1 => (Fr.m (fX7_remember hM1) (fun M5 _ hM5 => (Fr.k (Fr.b (fun x1_16 => (Fr.k (Fr.bw ⟨by decide, fun q => absurd q.1 (by decide)⟩ hM5 (fun M10 hM10 => (Fr.k (Fr.bw ⟨by decide, fun q => absurd q.1 (by decide)⟩ hM10 (fun M13 hM13 => (fX7_unfold_l36 hM13))))))))))))))
theorem fX7_set {x1 : Int32} {x2 : Int32} {M : Mem} (hM : KS SB2 M0 M) : Fr SB2 M0 (mX7_set 135 x1 x2 M) := by
  unfold mX7_set
  exact (Fr.m (fX7_remember hM) (fun M3 _ hM3 => (Fr.k (Fr.b (fun x3_10 => (Fr.k (Fr.bw ⟨by decide, fun q => absurd q.1 (by decide)⟩ hM3 (fun M8 hM8 => (Fr.ok hM8)))))))))
theorem fX7_setLeg_b30 {x1 : Int32} {x2 : Int32} {y1 : Int32} {y2 : Int32} {y3 : Int32} {M : Mem} (hM : KS SB2 M0 M) : Fr SB2 M0 (mX7_setLeg_b30 135 x1 x2 y1 y2 y3 M) := by
  unfold mX7_setLeg_b30
  exact (Fr.m (fX7_good__ hM) (fun M11 r10 hM11 => (Fr.i (Fr.ok hM11) (Fr.m (fX7_set hM11) (fun M15 r14 hM15 => (Fr.ok hM15))))))
theorem fX7_setLeg {x1 : Int32} {x2 : Int32} {M : Mem} (hM : KS SB2 M0 M) : Fr SB2 M0 (mX7_setLeg 135 x1 x2 M) := by
  unfold mX7_setLeg
  exact (Fr.c (fun r2 => (Fr.c (fun r5 => (Fr.k (Fr.i (fX7_setLeg_b30 hM) (fX7_setLeg_b30 hM)))))))
theorem fX7_setDirection_b41 {y1 : Int32} {y2 : Int32} {M : Mem} (hM : KS SB2 M0 M) : Fr SB2 M0 (mX7_setDirection_b41 135 y1 y2 M) := by
  unfold mX7_setDirection_b41
  exact (Fr.m (fX7_set hM) (fun M13 r12 hM13 => (Fr.i (Fr.ok hM13) (Fr.ok hM13))))
theorem fX7_setDirection_b21 {x1 : Int32} {x2 : Int32} {y1 : Int32} {y2 : Int32} {M : Mem} (hM : KS SB2 M0 M) : Fr SB2 M0 (mX7_setDirection_b21 135 x1 x2 y1 y2 M) := by
  unfold mX7_setDirection_b21
  exact (Fr.m (fX7_good_ hM) (fun M8 r7 hM8 => (Fr.i (Fr.ok hM8) (Fr.i (fX7_setDirection_b41 hM8) (fX7_setDirection_b41 hM8)))))
theorem fX7_setDirection {x1 : Int32} {x2 : Int32} {M : Mem} (hM : KS SB2 M0 M) : Fr SB2 M0 (mX7_setDirection 135 x1 x2 M) := by
  unfold mX7_setDirection
  exact (Fr.c (fun r2 => (Fr.k (Fr.i (fX7_setDirection_b21 hM) (fX7_setDirection_b21 hM)))))
theorem fX7_setTool {x1 : Int32} {x2 : Int32} {x3 : Int32} {M : Mem} (hM : KS SB2 M0 M) : Fr SB2 M0 (mX7_setTool 135 x1 x2 x3 M) := by
  unfold mX7_setTool
  exact (Fr.c (fun r2 => (Fr.m (fX7_good hM) (fun M6 r5 hM6 => (Fr.i (Fr.ok hM6) (Fr.m (fX7_set hM6) (fun M10 r9 hM10 => (Fr.k (Fr.bw ⟨by decide, fun q => absurd q.1 (by decide)⟩ hM10 (fun M13 hM13 => (Fr.ok hM13)))))))))))
theorem fX7_setSheet_b42 {x1 : Int32} {x2 : Int32} {x3 : Int32} {y1 : Int32} {M : Mem} (hM : KS SB2 M0 M) : Fr SB2 M0 (mX7_setSheet_b42 135 x1 x2 x3 y1 M) := by
  unfold mX7_setSheet_b42
  exact (Fr.m (fX7_good hM) (fun M7 r6 hM7 => (Fr.i (Fr.ok hM7) (Fr.m (fX7_set hM7) (fun M11 r10 hM11 => (Fr.k (Fr.bw ⟨by decide, fun q => absurd q.1 (by decide)⟩ hM11 (fun M14 hM14 => (Fr.k (Fr.bw ⟨by decide, fun q => absurd q.1 (by decide)⟩ hM14 (fun M17 hM17 => (Fr.ok hM17))))))))))))
theorem fX7_setSheet_b41 {x1 : Int32} {x2 : Int32} {x3 : Int32} {M : Mem} (hM : KS SB2 M0 M) : Fr SB2 M0 (mX7_setSheet_b41 135 x1 x2 x3 M) := by
  unfold mX7_setSheet_b41
  exact (fX7_setSheet_b42 hM)
theorem fX7_setSheet {x1 : Int32} {x2 : Int32} {x3 : Int32} {M : Mem} (hM : KS SB2 M0 M) : Fr SB2 M0 (mX7_setSheet 135 x1 x2 x3 M) := by
  unfold mX7_setSheet
  exact (Fr.c (fun r2 => (Fr.i (fX7_setSheet_b41 hM) (Fr.c (fun r19 => (Fr.i (fX7_setSheet_b41 hM) (Fr.c (fun r23 => (Fr.i (fX7_setSheet_b41 hM) (fX7_setSheet_b42 hM))))))))))
theorem fX7_setCost_b42 {x1 : Int32} {x2 : Int32} {x3 : Int32} {y1 : Int32} {M : Mem} (hM : KS SB2 M0 M) : Fr SB2 M0 (mX7_setCost_b42 135 x1 x2 x3 y1 M) := by
  unfold mX7_setCost_b42
  exact (Fr.m (fX7_good hM) (fun M7 r6 hM7 => (Fr.i (Fr.ok hM7) (Fr.m (fX7_set hM7) (fun M11 r10 hM11 => (Fr.k (Fr.bw ⟨by decide, fun q => absurd q.1 (by decide)⟩ hM11 (fun M14 hM14 => (Fr.k (Fr.bw ⟨by decide, fun q => absurd q.1 (by decide)⟩ hM14 (fun M17 hM17 => (Fr.ok hM17))))))))))))
theorem fX7_setCost_b41 {x1 : Int32} {x2 : Int32} {x3 : Int32} {M : Mem} (hM : KS SB2 M0 M) : Fr SB2 M0 (mX7_setCost_b41 135 x1 x2 x3 M) := by
  unfold mX7_setCost_b41
  exact (fX7_setCost_b42 hM)
theorem fX7_setCost {x1 : Int32} {x2 : Int32} {x3 : Int32} {M : Mem} (hM : KS SB2 M0 M) : Fr SB2 M0 (mX7_setCost 135 x1 x2 x3 M) := by
  unfold mX7_setCost
  exact (Fr.c (fun r2 => (Fr.i (fX7_setCost_b41 hM) (Fr.c (fun r19 => (Fr.i (fX7_setCost_b41 hM) (Fr.c (fun r23 => (Fr.i (fX7_setCost_b41 hM) (fX7_setCost_b42 hM))))))))))
theorem fX7_put {x1 : Int32} {M : Mem} (hM : KS SB2 M0 M) : Fr SB2 M0 (mX7_put 135 x1 M) := by
  unfold mX7_put
  exact (Fr.k (Fr.bw ⟨by decide, fun q => absurd q.1 (by decide)⟩ hM (fun M3 hM3 => (Fr.bw (by decide) hM3 (fun M4 hM4 => (Fr.ok hM4))))))
theorem fX7_putNumber_b18 {ih18 : Int32 → Int32 → Mem → Option (Mem × Unit)} {x1 : Int32} {x2 : Int32} {M : Mem} (hih18 : ∀ (v0 : Int32) (v1 : Int32) (v2 : Mem), KS SB2 M0 v2 → Fr SB2 M0 (ih18 v0 v1 v2)) (hM : KS SB2 M0 M) : Fr SB2 M0 (mX7_putNumber_b18 135 ih18 x1 x2 M) := by
  unfold mX7_putNumber_b18
  exact (Fr.i (Fr.ok hM) (Fr.k (Fr.m (fX7_put hM) (fun M7 _ hM7 => (Fr.b (fun x2_39 => (hih18 _ _ _ hM7)))))))
theorem fX7_putNumber_l18_n  : ∀ (n : Nat) (v0 : Int32) (v1 : Int32) (v2 : Mem), KS SB2 M0 v2 → Fr SB2 M0 (mX7_putNumber_l18 135 n v0 v1 v2) := by
  intro n
  induction n with
  | zero => intro v0 v1 v2 h; exact Fr.n
  | succ n IH => intro v0 v1 v2 h; exact fX7_putNumber_b18  IH h
theorem fX7_putNumber_l18  {v0 : Int32} {v1 : Int32} {v2 : Mem} {n : Nat} (h : KS SB2 M0 v2) : Fr SB2 M0 (mX7_putNumber_l18 135 n v0 v1 v2) := fX7_putNumber_l18_n   n v0 v1 v2 h
theorem fX7_putNumber_b2 {ih2 : Int32 → Int32 → Mem → Option (Mem × Unit)} {x1 : Int32} {x2 : Int32} {M : Mem} (hih2 : ∀ (v0 : Int32) (v1 : Int32) (v2 : Mem), KS SB2 M0 v2 → Fr SB2 M0 (ih2 v0 v1 v2)) (hM : KS SB2 M0 M) : Fr SB2 M0 (mX7_putNumber_b2 135 ih2 x1 x2 M) := by
  unfold mX7_putNumber_b2
  exact (Fr.k (Fr.i (fX7_putNumber_l18 hM) (Fr.b (fun x2_14 => (hih2 _ _ _ hM)))))
theorem fX7_putNumber_l2_n  : ∀ (n : Nat) (v0 : Int32) (v1 : Int32) (v2 : Mem), KS SB2 M0 v2 → Fr SB2 M0 (mX7_putNumber_l2 135 n v0 v1 v2) := by
  intro n
  induction n with
  | zero => intro v0 v1 v2 h; exact Fr.n
  | succ n IH => intro v0 v1 v2 h; exact fX7_putNumber_b2  IH h
theorem fX7_putNumber_l2  {v0 : Int32} {v1 : Int32} {v2 : Mem} {n : Nat} (h : KS SB2 M0 v2) : Fr SB2 M0 (mX7_putNumber_l2 135 n v0 v1 v2) := fX7_putNumber_l2_n   n v0 v1 v2 h
theorem fX7_putNumber {x1 : Int32} {M : Mem} (hM : KS SB2 M0 M) : Fr SB2 M0 (mX7_putNumber 135 x1 M) := by
  unfold mX7_putNumber
  exact (fX7_putNumber_l2 hM)
theorem fX7_putBend_b21 {x1 : Int32} {y1 : Int32} {M : Mem} (hM : KS SB2 M0 M) : Fr SB2 M0 (mX7_putBend_b21 135 x1 y1 M) := by
  unfold mX7_putBend_b21
  exact (Fr.m (fX7_put hM) (fun M5 _ hM5 => (Fr.k (Fr.c (fun r8 => (Fr.i (Fr.ok hM5) (Fr.m (fX7_put hM5) (fun M13 _ hM13 => (Fr.ok hM13)))))))))
theorem fX7_putBend {x1 : Int32} {M : Mem} (hM : KS SB2 M0 M) : Fr SB2 M0 (mX7_putBend 135 x1 M) := by
  unfold mX7_putBend
  exact (Fr.k (Fr.i (fX7_putBend_b21 hM) (fX7_putBend_b21 hM)))
theorem fX7_putCost_b6 {ih6 : Int32 → Mem → Option (Mem × Unit)} {x2 : Int32} {M : Mem} (hih6 : ∀ (v0 : Int32) (v1 : Mem), KS SB2 M0 v1 → Fr SB2 M0 (ih6 v0 v1)) (hM : KS SB2 M0 M) : Fr SB2 M0 (mX7_putCost_b6 135 ih6 x2 M) := by
  unfold mX7_putCost_b6
  exact (Fr.c (fun r2 => (Fr.i (Fr.c (fun r6 => (Fr.m (fX7_putNumber hM) (fun M10 _ hM10 => (Fr.ok hM10))))) (Fr.c (fun r12 => (Fr.m (fX7_put hM) (fun M16 _ hM16 => (Fr.b (fun x2_23 => (hih6 _ _ hM16))))))))))
theorem fX7_putCost_l6_n  : ∀ (n : Nat) (v0 : Int32) (v1 : Mem), KS SB2 M0 v1 → Fr SB2 M0 (mX7_putCost_l6 135 n v0 v1) := by
  intro n
  induction n with
  | zero => intro v0 v1 h; exact Fr.n
  | succ n IH => intro v0 v1 h; exact fX7_putCost_b6  IH h
theorem fX7_putCost_l6  {v0 : Int32} {v1 : Mem} {n : Nat} (h : KS SB2 M0 v1) : Fr SB2 M0 (mX7_putCost_l6 135 n v0 v1) := fX7_putCost_l6_n   n v0 v1 h
theorem fX7_putCost {M : Mem} (hM : KS SB2 M0 M) : Fr SB2 M0 (mX7_putCost 135 M) := by
  unfold mX7_putCost
  exact (fX7_putCost_l6 hM)
theorem fX7_write_b49 {ih12 : Int32 → Mem → Option (Mem × Int32)} {x1 : Int32} {M : Mem} (hih12 : ∀ (v0 : Int32) (v1 : Mem), KS SB2 M0 v1 → Fr SB2 M0 (ih12 v0 v1)) (hM : KS SB2 M0 M) : Fr SB2 M0 (mX7_write_b49 135 ih12 x1 M) := by
  unfold mX7_write_b49
  exact (Fr.b (fun x1_49 => (hih12 _ _ hM)))
theorem fX7_write_b12 {ih12 : Int32 → Mem → Option (Mem × Int32)} {x1 : Int32} {M : Mem} (hih12 : ∀ (v0 : Int32) (v1 : Mem), KS SB2 M0 v1 → Fr SB2 M0 (ih12 v0 v1)) (hM : KS SB2 M0 M) : Fr SB2 M0 (mX7_write_b12 135 ih12 x1 M) := by
  unfold mX7_write_b12
  exact (Fr.k (Fr.i (Fr.k (Fr.i (Fr.ok hM) (Fr.m (fX7_putCost hM) (fun M11 _ hM11 => (Fr.ok hM11))))) (Fr.k (Fr.m (fX7_putNumber hM) (fun M15 _ hM15 => (Fr.k (Fr.i (fX7_write_b49 hih12 hM15) (Fr.m (fX7_putBend hM15) (fun M21 _ hM21 => (fX7_write_b49 hih12 hM21))))))))))
theorem fX7_write_l12_n  : ∀ (n : Nat) (v0 : Int32) (v1 : Mem), KS SB2 M0 v1 → Fr SB2 M0 (mX7_write_l12 135 n v0 v1) := by
  intro n
  induction n with
  | zero => intro v0 v1 h; exact Fr.n
  | succ n IH => intro v0 v1 h; exact fX7_write_b12  IH h
theorem fX7_write_l12  {v0 : Int32} {v1 : Mem} {n : Nat} (h : KS SB2 M0 v1) : Fr SB2 M0 (mX7_write_l12 135 n v0 v1) := fX7_write_l12_n   n v0 v1 h
theorem fX7_write {M : Mem} (hM : KS SB2 M0 M) : Fr SB2 M0 (mX7_write 135 M) := by
  unfold mX7_write
  exact (Fr.bw (by decide) hM (fun M1 hM1 => (Fr.bw (by decide) hM1 (fun M3 hM3 => (fX7_write_l12 hM3)))))
theorem fX7_written {x1 : Int32} {M : Mem} (hM : KS SB2 M0 M) : Fr SB2 M0 (mX7_written 135 x1 M) := by
  unfold mX7_written
  exact (Fr.c (fun r2 => (Fr.m (fX7_good hM) (fun M6 r5 hM6 => (Fr.i (Fr.ok hM6) (Fr.k (Fr.k (Fr.ok hM6))))))))
end FFref
end
/-! part 60r.fc -/
section
/-! frames of the law's cases -/
section FC
variable {M N : Mem} {a1 a2 a3 a4 a5 : Int32}
theorem Pc.h {ρ α : Type} {P : α → Prop} {x : Option (Mem × (ρ ⊕ Nat))} {k : Mem → ρ → Option α} {Q : Mem × (ρ ⊕ Nat) → Prop} (h : Pc x Q) (hk : ∀ M r, Q (M, .inl r) → Pc (k M r) P) : Pc (calh x k) P := fun a e => by
  obtain ⟨M, r, e1, e2⟩ := calh_s e
  exact hk M r (h _ e1) a e2
theorem fc_2 : Pc (mlc_2 a1 a2 a3 a4 a5 M N) (fun q => KS SA M q.1 ∧ KS SB2 N q.2) := by
  unfold mlc_2
  have hM : KS SA M M := KS.rf
  have hN : KS SB2 N N := KS.rf
  exact (Pc.c (Pc.self _) (fun r2 _ => (Pc.m (fX7_errorKind  hN).pc (fun N6 r5 hN6 => (Pc.ok ⟨hM, hN6⟩)))))
theorem fc_3 : Pc (mlc_3 a1 a2 a3 a4 a5 M N) (fun q => KS SA M q.1 ∧ KS SB2 N q.2) := by
  unfold mlc_3
  have hM : KS SA M M := KS.rf
  have hN : KS SB2 N N := KS.rf
  exact (Pc.c (Pc.self _) (fun r2 _ => (Pc.m (fX7_errorPosition  hN).pc (fun N6 r5 hN6 => (Pc.ok ⟨hM, hN6⟩)))))
theorem fc_4 : Pc (mlc_4 a1 a2 a3 a4 a5 M N) (fun q => KS SA M q.1 ∧ KS SB2 N q.2) := by
  unfold mlc_4
  have hM : KS SA M M := KS.rf
  have hN : KS SB2 N N := KS.rf
  exact (Pc.c (Pc.self _) (fun r2 _ => (Pc.m (fX7_bends  hN).pc (fun N6 r5 hN6 => (Pc.ok ⟨hM, hN6⟩)))))
theorem fc_5 : Pc (mlc_5 a1 a2 a3 a4 a5 M N) (fun q => KS SA M q.1 ∧ KS SB2 N q.2) := by
  unfold mlc_5
  have hM : KS SA M M := KS.rf
  have hN : KS SB2 N N := KS.rf
  exact (Pc.c (Pc.self _) (fun r2 _ => (Pc.m (fX7_legs  hN).pc (fun N6 r5 hN6 => (Pc.ok ⟨hM, hN6⟩)))))
theorem fc_6 : Pc (mlc_6 a1 a2 a3 a4 a5 M N) (fun q => KS SA M q.1 ∧ KS SB2 N q.2) := by
  unfold mlc_6
  have hM : KS SA M M := KS.rf
  have hN : KS SB2 N N := KS.rf
  exact (Pc.h (fL_leg (by omega) hM).pc (fun M3 r2 hM3 => (Pc.m (fX7_leg  hN).pc (fun N6 r5 hN6 => (Pc.k (fun _ => (Pc.ok ⟨hM3, hN6⟩)))))))
theorem fc_7 : Pc (mlc_7 a1 a2 a3 a4 a5 M N) (fun q => KS SA M q.1 ∧ KS SB2 N q.2) := by
  unfold mlc_7
  have hM : KS SA M M := KS.rf
  have hN : KS SB2 N N := KS.rf
  exact (Pc.h (fL_isUp (by omega) hM).pc (fun M3 r2 hM3 => (Pc.m (fX7_isUp  hN).pc (fun N6 r5 hN6 => (Pc.k (fun _ => (Pc.ok ⟨hM3, hN6⟩)))))))
theorem fc_8 : Pc (mlc_8 a1 a2 a3 a4 a5 M N) (fun q => KS SA M q.1 ∧ KS SB2 N q.2) := by
  unfold mlc_8
  have hM : KS SA M M := KS.rf
  have hN : KS SB2 N N := KS.rf
  exact (Pc.c (Pc.self _) (fun r2 _ => (Pc.m (fX7_deduction  hN).pc (fun N6 r5 hN6 => (Pc.ok ⟨hM, hN6⟩)))))
theorem fc_9 : Pc (mlc_9 a1 a2 a3 a4 a5 M N) (fun q => KS SA M q.1 ∧ KS SB2 N q.2) := by
  unfold mlc_9
  have hM : KS SA M M := KS.rf
  have hN : KS SB2 N N := KS.rf
  exact (Pc.c (Pc.self _) (fun r2 _ => (Pc.m (fX7_flatLength  hN).pc (fun N6 r5 hN6 => (Pc.ok ⟨hM, hN6⟩)))))
theorem fc_10 : Pc (mlc_10 a1 a2 a3 a4 a5 M N) (fun q => KS SA M q.1 ∧ KS SB2 N q.2) := by
  unfold mlc_10
  have hM : KS SA M M := KS.rf
  have hN : KS SB2 N N := KS.rf
  exact (Pc.h (fL_linePlace (by omega) hM).pc (fun M3 r2 hM3 => (Pc.m (fX7_linePlace  hN).pc (fun N6 r5 hN6 => (Pc.k (fun _ => (Pc.ok ⟨hM3, hN6⟩)))))))
theorem fc_11 : Pc (mlc_11 a1 a2 a3 a4 a5 M N) (fun q => KS SA M q.1 ∧ KS SB2 N q.2) := by
  unfold mlc_11
  have hM : KS SA M M := KS.rf
  have hN : KS SB2 N N := KS.rf
  exact (Pc.c (Pc.self _) (fun r2 _ => (Pc.m (fX7_ratio  hN).pc (fun N6 r5 hN6 => (Pc.ok ⟨hM, hN6⟩)))))
theorem fc_12 : Pc (mlc_12 a1 a2 a3 a4 a5 M N) (fun q => KS SA M q.1 ∧ KS SB2 N q.2) := by
  unfold mlc_12
  have hM : KS SA M M := KS.rf
  have hN : KS SB2 N N := KS.rf
  exact (Pc.c (Pc.self _) (fun r2 _ => (Pc.m (fX7_springBack  hN).pc (fun N6 r5 hN6 => (Pc.ok ⟨hM, hN6⟩)))))
theorem fc_13 : Pc (mlc_13 a1 a2 a3 a4 a5 M N) (fun q => KS SA M q.1 ∧ KS SB2 N q.2) := by
  unfold mlc_13
  have hM : KS SA M M := KS.rf
  have hN : KS SB2 N N := KS.rf
  exact (Pc.k (fun _ => (Pc.h (fL_springBackFor (by omega) hM).pc (fun M4 r3 hM4 => (Pc.k (fun _ => (Pc.m (fX7_springBackFor  hN).pc (fun N8 r7 hN8 => (Pc.k (fun _ => (Pc.ok ⟨hM4, hN8⟩)))))))))))
theorem fc_14 : Pc (mlc_14 a1 a2 a3 a4 a5 M N) (fun q => KS SA M q.1 ∧ KS SB2 N q.2) := by
  unfold mlc_14
  have hM : KS SA M M := KS.rf
  have hN : KS SB2 N N := KS.rf
  exact (Pc.c (Pc.self _) (fun r2 _ => (Pc.m (fX7_swingAngle  hN).pc (fun N6 r5 hN6 => (Pc.ok ⟨hM, hN6⟩)))))
theorem fc_15 : Pc (mlc_15 a1 a2 a3 a4 a5 M N) (fun q => KS SA M q.1 ∧ KS SB2 N q.2) := by
  unfold mlc_15
  have hM : KS SA M M := KS.rf
  have hN : KS SB2 N N := KS.rf
  exact (Pc.h (fL_tool (by omega) hM).pc (fun M3 r2 hM3 => (Pc.m (fX7_tool  hN).pc (fun N6 r5 hN6 => (Pc.k (fun _ => (Pc.ok ⟨hM3, hN6⟩)))))))
theorem fc_16 : Pc (mlc_16 a1 a2 a3 a4 a5 M N) (fun q => KS SA M q.1 ∧ KS SB2 N q.2) := by
  unfold mlc_16
  have hM : KS SA M M := KS.rf
  have hN : KS SB2 N N := KS.rf
  exact (Pc.m (fX6_finishedWidth  hM).pc (fun M3 r2 hM3 => (Pc.m (fX7_finishedWidth  hN).pc (fun N6 r5 hN6 => (Pc.k (fun _ => (Pc.ok ⟨hM3, hN6⟩)))))))
theorem fc_17 : Pc (mlc_17 a1 a2 a3 a4 a5 M N) (fun q => KS SA M q.1 ∧ KS SB2 N q.2) := by
  unfold mlc_17
  have hM : KS SA M M := KS.rf
  have hN : KS SB2 N N := KS.rf
  exact (Pc.m (fX6_finishedHeight  hM).pc (fun M3 r2 hM3 => (Pc.m (fX7_finishedHeight  hN).pc (fun N6 r5 hN6 => (Pc.k (fun _ => (Pc.ok ⟨hM3, hN6⟩)))))))
theorem fc_18 : Pc (mlc_18 a1 a2 a3 a4 a5 M N) (fun q => KS SA M q.1 ∧ KS SB2 N q.2) := by
  unfold mlc_18
  have hM : KS SA M M := KS.rf
  have hN : KS SB2 N N := KS.rf
  exact (Pc.m (fX6_isFinishedCrossed  hM).pc (fun M3 r2 hM3 => (Pc.m (fX7_isFinishedCrossed  hN).pc (fun N6 r5 hN6 => (Pc.k (fun _ => (Pc.ok ⟨hM3, hN6⟩)))))))
theorem fc_19 : Pc (mlc_19 a1 a2 a3 a4 a5 M N) (fun q => KS SA M q.1 ∧ KS SB2 N q.2) := by
  unfold mlc_19
  have hM : KS SA M M := KS.rf
  have hN : KS SB2 N N := KS.rf
  exact (Pc.h (fL_finishedCorner (by omega) hM).pc (fun M3 r2 hM3 => (Pc.m (fX7_finishedCorner  hN).pc (fun N6 r5 hN6 => (Pc.k (fun _ => (Pc.ok ⟨hM3, hN6⟩)))))))
theorem fc_20 : Pc (mlc_20 a1 a2 a3 a4 a5 M N) (fun q => KS SA M q.1 ∧ KS SB2 N q.2) := by
  unfold mlc_20
  have hM : KS SA M M := KS.rf
  have hN : KS SB2 N N := KS.rf
  exact (Pc.c (Pc.self _) (fun r2 _ => (Pc.m (fX7_isSymmetric  hN).pc (fun N6 r5 hN6 => (Pc.ok ⟨hM, hN6⟩)))))
theorem fc_21 : Pc (mlc_21 a1 a2 a3 a4 a5 M N) (fun q => KS SA M q.1 ∧ KS SB2 N q.2) := by
  unfold mlc_21
  have hM : KS SA M M := KS.rf
  have hN : KS SB2 N N := KS.rf
  exact (Pc.c (Pc.self _) (fun r2 _ => (Pc.m (fX7_longestLeg  hN).pc (fun N6 r5 hN6 => (Pc.ok ⟨hM, hN6⟩)))))
theorem fc_22 : Pc (mlc_22 a1 a2 a3 a4 a5 M N) (fun q => KS SA M q.1 ∧ KS SB2 N q.2) := by
  unfold mlc_22
  have hM : KS SA M M := KS.rf
  have hN : KS SB2 N N := KS.rf
  exact (Pc.c (Pc.self _) (fun r2 _ => (Pc.m (fX7_made  hN).pc (fun N6 r5 hN6 => (Pc.ok ⟨hM, hN6⟩)))))
theorem fc_23 : Pc (mlc_23 a1 a2 a3 a4 a5 M N) (fun q => KS SA M q.1 ∧ KS SB2 N q.2) := by
  unfold mlc_23
  have hM : KS SA M M := KS.rf
  have hN : KS SB2 N N := KS.rf
  exact (Pc.c (Pc.self _) (fun r2 _ => (Pc.m (fX7_steps  hN).pc (fun N6 r5 hN6 => (Pc.ok ⟨hM, hN6⟩)))))
theorem fc_24 : Pc (mlc_24 a1 a2 a3 a4 a5 M N) (fun q => KS SA M q.1 ∧ KS SB2 N q.2) := by
  unfold mlc_24
  have hM : KS SA M M := KS.rf
  have hN : KS SB2 N N := KS.rf
  exact (Pc.h (fL_step (by omega) hM).pc (fun M3 r2 hM3 => (Pc.m (fX7_step  hN).pc (fun N6 r5 hN6 => (Pc.k (fun _ => (Pc.ok ⟨hM3, hN6⟩)))))))
theorem fc_25 : Pc (mlc_25 a1 a2 a3 a4 a5 M N) (fun q => KS SA M q.1 ∧ KS SB2 N q.2) := by
  unfold mlc_25
  have hM : KS SA M M := KS.rf
  have hN : KS SB2 N N := KS.rf
  exact (Pc.c (Pc.self _) (fun r2 _ => (Pc.m (fX7_costSoFar  hN).pc (fun N6 r5 hN6 => (Pc.ok ⟨hM, hN6⟩)))))
theorem fc_26 : Pc (mlc_26 a1 a2 a3 a4 a5 M N) (fun q => KS SA M q.1 ∧ KS SB2 N q.2) := by
  unfold mlc_26
  have hM : KS SA M M := KS.rf
  have hN : KS SB2 N N := KS.rf
  exact (Pc.h (fL_reason (by omega) hM).pc (fun M3 r2 hM3 => (Pc.m (fX7_reason  hN).pc (fun N6 r5 hN6 => (Pc.k (fun _ => (Pc.ok ⟨hM3, hN6⟩)))))))
theorem fc_27 : Pc (mlc_27 a1 a2 a3 a4 a5 M N) (fun q => KS SA M q.1 ∧ KS SB2 N q.2) := by
  unfold mlc_27
  have hM : KS SA M M := KS.rf
  have hN : KS SB2 N N := KS.rf
  exact (Pc.h (fL_gauge (by omega) hM).pc (fun M3 r2 hM3 => (Pc.m (fX7_gauge  hN).pc (fun N6 r5 hN6 => (Pc.k (fun _ => (Pc.ok ⟨hM3, hN6⟩)))))))
theorem fc_28 : Pc (mlc_28 a1 a2 a3 a4 a5 M N) (fun q => KS SA M q.1 ∧ KS SB2 N q.2) := by
  unfold mlc_28
  have hM : KS SA M M := KS.rf
  have hN : KS SB2 N N := KS.rf
  exact (Pc.h (fL_corner (by omega) hM).pc (fun M3 r2 hM3 => (Pc.m (fX7_corner  hN).pc (fun N6 r5 hN6 => (Pc.k (fun _ => (Pc.ok ⟨hM3, hN6⟩)))))))
theorem fc_29 : Pc (mlc_29 a1 a2 a3 a4 a5 M N) (fun q => KS SA M q.1 ∧ KS SB2 N q.2) := by
  unfold mlc_29
  have hM : KS SA M M := KS.rf
  have hN : KS SB2 N N := KS.rf
  exact (Pc.h (fL_top (by omega) hM).pc (fun M3 r2 hM3 => (Pc.m (fX7_top  hN).pc (fun N6 r5 hN6 => (Pc.k (fun _ => (Pc.ok ⟨hM3, hN6⟩)))))))
theorem fc_30 : Pc (mlc_30 a1 a2 a3 a4 a5 M N) (fun q => KS SA M q.1 ∧ KS SB2 N q.2) := by
  unfold mlc_30
  have hM : KS SA M M := KS.rf
  have hN : KS SB2 N N := KS.rf
  exact (Pc.h (fL_hitting (by omega) hM).pc (fun M3 r2 hM3 => (Pc.m (fX7_hitting  hN).pc (fun N6 r5 hN6 => (Pc.k (fun _ => (Pc.ok ⟨hM3, hN6⟩)))))))
theorem fc_31 : Pc (mlc_31 a1 a2 a3 a4 a5 M N) (fun q => KS SA M q.1 ∧ KS SB2 N q.2) := by
  unfold mlc_31
  have hM : KS SA M M := KS.rf
  have hN : KS SB2 N N := KS.rf
  exact (Pc.h (fL_refused (by omega) hM).pc (fun M3 r2 hM3 => (Pc.m (fX7_refused  hN).pc (fun N6 r5 hN6 => (Pc.k (fun _ => (Pc.ok ⟨hM3, hN6⟩)))))))
theorem fc_32 : Pc (mlc_32 a1 a2 a3 a4 a5 M N) (fun q => KS SA M q.1 ∧ KS SB2 N q.2) := by
  unfold mlc_32
  have hM : KS SA M M := KS.rf
  have hN : KS SB2 N N := KS.rf
  exact (Pc.m (fX6_possible  hM).pc (fun M3 r2 hM3 => (Pc.m (fX7_possible  hN).pc (fun N6 r5 hN6 => (Pc.k (fun _ => (Pc.ok ⟨hM3, hN6⟩)))))))
theorem fc_33 : Pc (mlc_33 a1 a2 a3 a4 a5 M N) (fun q => KS SA M q.1 ∧ KS SB2 N q.2) := by
  unfold mlc_33
  have hM : KS SA M M := KS.rf
  have hN : KS SB2 N N := KS.rf
  exact (Pc.m (fX6_stuck  hM).pc (fun M3 r2 hM3 => (Pc.m (fX7_stuck  hN).pc (fun N6 r5 hN6 => (Pc.k (fun _ => (Pc.ok ⟨hM3, hN6⟩)))))))
theorem fc_34 : Pc (mlc_34 a1 a2 a3 a4 a5 M N) (fun q => KS SA M q.1 ∧ KS SB2 N q.2) := by
  unfold mlc_34
  have hM : KS SA M M := KS.rf
  have hN : KS SB2 N N := KS.rf
  exact (Pc.h (fL_costOf (by omega) hM).pc (fun M3 r2 hM3 => (Pc.m (fX7_costOf  hN).pc (fun N6 r5 hN6 => (Pc.k (fun _ => (Pc.ok ⟨hM3, hN6⟩)))))))
theorem fc_35 : Pc (mlc_35 a1 a2 a3 a4 a5 M N) (fun q => KS SA M q.1 ∧ KS SB2 N q.2) := by
  unfold mlc_35
  have hM : KS SA M M := KS.rf
  have hN : KS SB2 N N := KS.rf
  exact (Pc.m (fX6_orders  hM).pc (fun M3 r2 hM3 => (Pc.m (fX7_orders  hN).pc (fun N6 r5 hN6 => (Pc.k (fun _ => (Pc.ok ⟨hM3, hN6⟩)))))))
theorem fc_36 : Pc (mlc_36 a1 a2 a3 a4 a5 M N) (fun q => KS SA M q.1 ∧ KS SB2 N q.2) := by
  unfold mlc_36
  have hM : KS SA M M := KS.rf
  have hN : KS SB2 N N := KS.rf
  exact (Pc.m (fX6_leastCost  hM).pc (fun M3 r2 hM3 => (Pc.m (fX7_leastCost  hN).pc (fun N6 r5 hN6 => (Pc.k (fun _ => (Pc.ok ⟨hM3, hN6⟩)))))))
theorem fc_37 : Pc (mlc_37 a1 a2 a3 a4 a5 M N) (fun q => KS SA M q.1 ∧ KS SB2 N q.2) := by
  unfold mlc_37
  have hM : KS SA M M := KS.rf
  have hN : KS SB2 N N := KS.rf
  exact (Pc.m (fX6_plannedSteps  hM).pc (fun M3 r2 hM3 => (Pc.m (fX7_plannedSteps  hN).pc (fun N6 r5 hN6 => (Pc.k (fun _ => (Pc.ok ⟨hM3, hN6⟩)))))))
theorem fc_38 : Pc (mlc_38 a1 a2 a3 a4 a5 M N) (fun q => KS SA M q.1 ∧ KS SB2 N q.2) := by
  unfold mlc_38
  have hM : KS SA M M := KS.rf
  have hN : KS SB2 N N := KS.rf
  exact (Pc.h (fL_planned (by omega) hM).pc (fun M3 r2 hM3 => (Pc.m (fX7_planned  hN).pc (fun N6 r5 hN6 => (Pc.k (fun _ => (Pc.ok ⟨hM3, hN6⟩)))))))
theorem fc_39 : Pc (mlc_39 a1 a2 a3 a4 a5 M N) (fun q => KS SA M q.1 ∧ KS SB2 N q.2) := by
  unfold mlc_39
  have hM : KS SA M M := KS.rf
  have hN : KS SB2 N N := KS.rf
  exact (Pc.m (fX6_greatestCost  hM).pc (fun M3 r2 hM3 => (Pc.m (fX7_greatestCost  hN).pc (fun N6 r5 hN6 => (Pc.k (fun _ => (Pc.ok ⟨hM3, hN6⟩)))))))
theorem fc_40 : Pc (mlc_40 a1 a2 a3 a4 a5 M N) (fun q => KS SA M q.1 ∧ KS SB2 N q.2) := by
  unfold mlc_40
  have hM : KS SA M M := KS.rf
  have hN : KS SB2 N N := KS.rf
  exact (Pc.h (fL_ordersWith (by omega) hM).pc (fun M3 r2 hM3 => (Pc.m (fX7_ordersWith  hN).pc (fun N6 r5 hN6 => (Pc.k (fun _ => (Pc.ok ⟨hM3, hN6⟩)))))))
theorem fc_41 : Pc (mlc_41 a1 a2 a3 a4 a5 M N) (fun q => KS SA M q.1 ∧ KS SB2 N q.2) := by
  unfold mlc_41
  have hM : KS SA M M := KS.rf
  have hN : KS SB2 N N := KS.rf
  exact (Pc.m (fX6_lastSteps  hM).pc (fun M3 r2 hM3 => (Pc.m (fX7_lastSteps  hN).pc (fun N6 r5 hN6 => (Pc.k (fun _ => (Pc.ok ⟨hM3, hN6⟩)))))))
theorem fc_42 : Pc (mlc_42 a1 a2 a3 a4 a5 M N) (fun q => KS SA M q.1 ∧ KS SB2 N q.2) := by
  unfold mlc_42
  have hM : KS SA M M := KS.rf
  have hN : KS SB2 N N := KS.rf
  exact (Pc.m (fX6_mostBends  hM).pc (fun M3 r2 hM3 => (Pc.m (fX7_mostBends  hN).pc (fun N6 r5 hN6 => (Pc.k (fun _ => (Pc.ok ⟨hM3, hN6⟩)))))))
theorem fc_43 : Pc (mlc_43 a1 a2 a3 a4 a5 M N) (fun q => KS SA M q.1 ∧ KS SB2 N q.2) := by
  unfold mlc_43
  have hM : KS SA M M := KS.rf
  have hN : KS SB2 N N := KS.rf
  exact (Pc.m (fX6_greatestBeam  hM).pc (fun M3 r2 hM3 => (Pc.m (fX7_greatestBeam  hN).pc (fun N6 r5 hN6 => (Pc.k (fun _ => (Pc.ok ⟨hM3, hN6⟩)))))))
theorem fc_44 : Pc (mlc_44 a1 a2 a3 a4 a5 M N) (fun q => KS SA M q.1 ∧ KS SB2 N q.2) := by
  unfold mlc_44
  have hM : KS SA M M := KS.rf
  have hN : KS SB2 N N := KS.rf
  exact (Pc.h (fL_costIfTurned (by omega) hM).pc (fun M3 r2 hM3 => (Pc.m (fX7_costIfTurned  hN).pc (fun N6 r5 hN6 => (Pc.k (fun _ => (Pc.ok ⟨hM3, hN6⟩)))))))
theorem fc_45 : Pc (mlc_45 a1 a2 a3 a4 a5 M N) (fun q => KS SA M q.1 ∧ KS SB2 N q.2) := by
  unfold mlc_45
  have hM : KS SA M M := KS.rf
  have hN : KS SB2 N N := KS.rf
  exact (Pc.h (fL_fold (by omega) hM).pc (fun M3 r2 hM3 => (Pc.m (fX7_fold  hN).pc (fun N6 r5 hN6 => (Pc.c (Pc.self _) (fun r8 _ => (Pc.i (fun _ => (Pc.i (fun _ => (Pc.k (fun _ => (Pc.i (fun _ => (Pc.k (fun _ => (Pc.ok ⟨hM3, hN6⟩)))) (fun _ => Pc.n))))) (fun _ => (Pc.k (fun _ => (Pc.ok ⟨hM3, hN6⟩)))))) (fun _ => Pc.n))))))))
theorem fc_46 : Pc (mlc_46 a1 a2 a3 a4 a5 M N) (fun q => KS SA M q.1 ∧ KS SB2 N q.2) := by
  unfold mlc_46
  have hM : KS SA M M := KS.rf
  have hN : KS SB2 N N := KS.rf
  exact (Pc.h (fL_foldNext (by omega) hM).pc (fun M3 r2 hM3 => (Pc.m (fX7_foldNext  hN).pc (fun N6 r5 hN6 => (Pc.k (fun _ => (Pc.ok ⟨hM3, hN6⟩)))))))
theorem fc_47 : Pc (mlc_47 a1 a2 a3 a4 a5 M N) (fun q => KS SA M q.1 ∧ KS SB2 N q.2) := by
  unfold mlc_47
  have hM : KS SA M M := KS.rf
  have hN : KS SB2 N N := KS.rf
  exact (Pc.m (fX6_unfold  hM).pc (fun M3 r2 hM3 => (Pc.m (fX7_unfold  hN).pc (fun N6 r5 hN6 => (Pc.k (fun _ => (Pc.ok ⟨hM3, hN6⟩)))))))
theorem fc_48 : Pc (mlc_48 a1 a2 a3 a4 a5 M N) (fun q => KS SA M q.1 ∧ KS SB2 N q.2) := by
  unfold mlc_48
  have hM : KS SA M M := KS.rf
  have hN : KS SB2 N N := KS.rf
  exact (Pc.h (fL_setLeg (by omega) hM).pc (fun M3 r2 hM3 => (Pc.m (fX7_setLeg  hN).pc (fun N6 r5 hN6 => (Pc.k (fun _ => (Pc.ok ⟨hM3, hN6⟩)))))))
theorem fc_49 : Pc (mlc_49 a1 a2 a3 a4 a5 M N) (fun q => KS SA M q.1 ∧ KS SB2 N q.2) := by
  unfold mlc_49
  have hM : KS SA M M := KS.rf
  have hN : KS SB2 N N := KS.rf
  exact (Pc.i (fun _ => (Pc.h (fL_setDirection (by omega) hM).pc (fun M4 r3 hM4 => (Pc.i (fun _ => (Pc.m (fX7_setDirection  hN).pc (fun N8 r7 hN8 => (Pc.k (fun _ => (Pc.ok ⟨hM4, hN8⟩)))))) (fun _ => (Pc.m (fX7_setDirection  hN).pc (fun N12 r11 hN12 => (Pc.k (fun _ => (Pc.ok ⟨hM4, hN12⟩)))))))))) (fun _ => (Pc.h (fL_setDirection (by omega) hM).pc (fun M16 r15 hM16 => (Pc.i (fun _ => (Pc.m (fX7_setDirection  hN).pc (fun N20 r19 hN20 => (Pc.k (fun _ => (Pc.ok ⟨hM16, hN20⟩)))))) (fun _ => (Pc.m (fX7_setDirection  hN).pc (fun N24 r23 hN24 => (Pc.k (fun _ => (Pc.ok ⟨hM16, hN24⟩)))))))))))
theorem fc_50 : Pc (mlc_50 a1 a2 a3 a4 a5 M N) (fun q => KS SA M q.1 ∧ KS SB2 N q.2) := by
  unfold mlc_50
  have hM : KS SA M M := KS.rf
  have hN : KS SB2 N N := KS.rf
  exact (Pc.h (fL_setTool (by omega) hM).pc (fun M3 r2 hM3 => (Pc.m (fX7_setTool  hN).pc (fun N6 r5 hN6 => (Pc.k (fun _ => (Pc.ok ⟨hM3, hN6⟩)))))))
theorem fc_51 : Pc (mlc_51 a1 a2 a3 a4 a5 M N) (fun q => KS SA M q.1 ∧ KS SB2 N q.2) := by
  unfold mlc_51
  have hM : KS SA M M := KS.rf
  have hN : KS SB2 N N := KS.rf
  exact (Pc.h (fL_setSheet (by omega) hM).pc (fun M3 r2 hM3 => (Pc.m (fX7_setSheet  hN).pc (fun N6 r5 hN6 => (Pc.k (fun _ => (Pc.ok ⟨hM3, hN6⟩)))))))
theorem fc_52 : Pc (mlc_52 a1 a2 a3 a4 a5 M N) (fun q => KS SA M q.1 ∧ KS SB2 N q.2) := by
  unfold mlc_52
  have hM : KS SA M M := KS.rf
  have hN : KS SB2 N N := KS.rf
  exact (Pc.h (fL_setCost (by omega) hM).pc (fun M3 r2 hM3 => (Pc.m (fX7_setCost  hN).pc (fun N6 r5 hN6 => (Pc.k (fun _ => (Pc.ok ⟨hM3, hN6⟩)))))))
theorem fc_53 : Pc (mlc_53 a1 a2 a3 a4 a5 M N) (fun q => KS SA M q.1 ∧ KS SB2 N q.2) := by
  unfold mlc_53
  have hM : KS SA M M := KS.rf
  have hN : KS SB2 N N := KS.rf
  exact (Pc.m (fX6_undo  hM).pc (fun M3 r2 hM3 => (Pc.m (fX7_undo  hN).pc (fun N6 r5 hN6 => (Pc.k (fun _ => (Pc.ok ⟨hM3, hN6⟩)))))))
theorem fc_54 : Pc (mlc_54 a1 a2 a3 a4 a5 M N) (fun q => KS SA M q.1 ∧ KS SB2 N q.2) := by
  unfold mlc_54
  have hM : KS SA M M := KS.rf
  have hN : KS SB2 N N := KS.rf
  exact (Pc.m (fX6_write  hM).pc (fun M3 r2 hM3 => (Pc.m (fX7_write  hN).pc (fun N6 r5 hN6 => (Pc.ok ⟨hM3, hN6⟩)))))
theorem fc_55 : Pc (mlc_55 a1 a2 a3 a4 a5 M N) (fun q => KS SA M q.1 ∧ KS SB2 N q.2) := by
  unfold mlc_55
  have hM : KS SA M M := KS.rf
  have hN : KS SB2 N N := KS.rf
  exact (Pc.h (fL_written (by omega) hM).pc (fun M3 r2 hM3 => (Pc.m (fX7_written  hN).pc (fun N6 r5 hN6 => (Pc.k (fun _ => (Pc.ok ⟨hM3, hN6⟩)))))))
end FC
end
/-! part 60s.walk -/
section
/-! legs laid alike: the class's places, the reference's arrays -/
/-- a leg laid by both -/
def LG (k : Nat) (M N : Mem) (l : Nat) : Prop := rd M (k + 1) l = rd N 143 l ∧ rd M (k + 2) l = rd N 144 l ∧ rd M (k + 3) l = imin (rd N 141 l) (rd N 143 l) ∧ rd M (k + 4) l = imax (rd N 141 l) (rd N 143 l) ∧ rd M (k + 5) l = imin (rd N 142 l) (rd N 144 l) ∧ rd M (k + 6) l = imax (rd N 142 l) (rd N 144 l)
/-- what the class lays, what the reference lays -/
def SPl (k : Nat) (c _ : Nat) : Prop := k + 1 ≤ c ∧ c ≤ k + 6
def SRl (c j : Nat) : Prop := (141 ≤ c ∧ c ≤ 144) ∨ (c = 135 ∧ (j = 21 ∨ j = 22))
theorem f_has0 : ∀ a, a < 256 → ∀ k, k < 9 → ((((Int32.ofNat a >>> (Int32.ofNat k &&& 31)) &&& (1 : Int32)) = 0) ↔ a.testBit k = false) := by decide +kernel
theorem f_hasx : ∀ a, a < 256 → ∀ k, k < 8 → (((((Int32.ofNat a ^^^ (-1 : Int32)) >>> (Int32.ofNat k &&& 31)) &&& (1 : Int32)) = 0) ↔ a.testBit k = true) := by decide +kernel
theorem f_turn : ∀ d, d < 4 → ∀ t, t < 4 → ((Int32.ofNat d + Int32.ofNat t) &&& (3 : Int32)) = Int32.ofNat ((d + t) % 4) ∧ ((Int32.ofNat d + Int32.ofNat t) - (Int32.ofNat d + Int32.ofNat t) / (4 : Int32) * (4 : Int32)) = Int32.ofNat ((d + t) % 4) := by decide +kernel
section WK
variable {M N M0 N0 : Mem} {f : Nat → Int32} {k k1 : Nat}
theorem m1_mul (x : Int32) : (-1 : Int32) * x = -x := by
  have : (-1 : Int32) = -(1 : Int32) := rfl
  rw [this, Int32.neg_mul, Int32.one_mul]
theorem pc_across {d : Int32} : Pc (mX7_acrossOf d N) (fun r => (d = 1 ∧ r = 1) ∨ (¬ d = 1 ∧ d = 3 ∧ r = -1) ∨ (¬ d = 1 ∧ ¬ d = 3 ∧ r = 0)) := by
  unfold mX7_acrossOf
  exact Pc.i (fun c => Pc.ok (Or.inl ⟨c, rfl⟩)) (fun c => Pc.i (fun c2 => Pc.ok (Or.inr (Or.inl ⟨c, c2, rfl⟩))) (fun c2 => Pc.ok (Or.inr (Or.inr ⟨c, c2, rfl⟩))))
theorem pc_upOf {d : Int32} : Pc (mX7_upOf d N) (fun r => (d = 0 ∧ r = 1) ∨ (¬ d = 0 ∧ d = 2 ∧ r = -1) ∨ (¬ d = 0 ∧ ¬ d = 2 ∧ r = 0)) := by
  unfold mX7_upOf
  exact Pc.i (fun c => Pc.ok (Or.inl ⟨c, rfl⟩)) (fun c => Pc.i (fun c2 => Pc.ok (Or.inr (Or.inl ⟨c, c2, rfl⟩))) (fun c2 => Pc.ok (Or.inr (Or.inr ⟨c, c2, rfl⟩))))
/-- how far a leg goes across, up -/
def goX (d v : Int32) : Int32 := if d = 1 then v else if d = 3 then -v else 0
def goY (d v : Int32) : Int32 := if d = 0 then v else if d = 2 then -v else 0
theorem pc_layLeg {l : Nat} {d : Int32} (hl : l < 9) : Pc (mX7_layLeg 135 (Int32.ofNat l) d N) (fun q => KS SRl N q.1 ∧ (∀ j, j ≠ l → rd q.1 141 j = rd N 141 j ∧ rd q.1 142 j = rd N 142 j ∧ rd q.1 143 j = rd N 143 j ∧ rd q.1 144 j = rd N 144 j) ∧ rd q.1 141 l = rd N 135 21 ∧ rd q.1 142 l = rd N 135 22 ∧ rd q.1 143 l = rd N 135 21 + goX d (rd N 136 (2 + l)) ∧ rd q.1 144 l = rd N 135 22 + goY d (rd N 136 (2 + l)) ∧ rd q.1 135 21 = rd N 135 21 + goX d (rd N 136 (2 + l)) ∧ rd q.1 135 22 = rd N 135 22 + goY d (rd N 136 (2 + l))) := by
  unfold mX7_layLeg
  have tl : (Int32.ofNat l).toInt = (l : Int) := t_of (by omega)
  have n2 : ((2 : Int32)).toInt = 2 := rfl
  have ea := i_add (a := (2 : Int32)) (b := Int32.ofNat l) (by omega) (by omega)
  have cl := c_of (a := l) (by omega)
  have c2 : ((2 : Int32) + Int32.ofNat l).toNatClampNeg = 2 + l := by rw [i_clamp]; omega
  rw [cl, c2]
  refine Pc.k (fun _ => Pc.b (fun M3 e3 => Pc.k (fun _ => Pc.b (fun M6 e6 => Pc.c pc_across (fun r8 p8 => Pc.k (fun _ => Pc.b (fun M11 e11 => Pc.c pc_upOf (fun r14 p14 => Pc.k (fun _ => Pc.b (fun M17 e17 => Pc.k (fun _ => Pc.b (fun M21 e21 => Pc.k (fun _ => Pc.b (fun M24 e24 => Pc.ok ?_))))))))))))))
  have e3 : M3 = wr N 141 l (rd N 135 21) := e3
  have e6 : M6 = wr M3 142 l (rd M3 135 22) := e6
  have e11 : M11 = wr M6 135 21 (rd M6 135 21 + r8 * rd M6 136 (2 + l)) := e11
  have e17 : M17 = wr M11 135 22 (rd M11 135 22 + r14 * rd M11 136 (2 + l)) := e17
  have e21 : M21 = wr M17 143 l (rd M17 135 21) := e21
  have e24 : M24 = wr M21 144 l (rd M21 135 22) := e24
  have x6 : rd M6 135 21 = rd N 135 21 := by rw [e6, rd_wk (by decide), e3, rd_wk (by decide)]
  have l6 : rd M6 136 (2 + l) = rd N 136 (2 + l) := by rw [e6, rd_wk (by decide), e3, rd_wk (by decide)]
  have y3 : rd M3 135 22 = rd N 135 22 := by rw [e3, rd_wk (by decide)]
  have gx : r8 * rd N 136 (2 + l) = goX d (rd N 136 (2 + l)) := by
    unfold goX
    rcases p8 with ⟨c, e⟩ | ⟨c1, c, e⟩ | ⟨c1, c, e⟩
    · rw [if_pos c, e, Int32.one_mul]
    · rw [if_neg c1, if_pos c, e, m1_mul]
    · rw [if_neg c1, if_neg c, e, Int32.zero_mul]
  have gy : r14 * rd N 136 (2 + l) = goY d (rd N 136 (2 + l)) := by
    unfold goY
    rcases p14 with ⟨c, e⟩ | ⟨c1, c, e⟩ | ⟨c1, c, e⟩
    · rw [if_pos c, e, Int32.one_mul]
    · rw [if_neg c1, if_pos c, e, m1_mul]
    · rw [if_neg c1, if_neg c, e, Int32.zero_mul]
  rw [x6, l6, gx] at e11
  have y11 : rd M11 135 22 = rd N 135 22 := by rw [e11, rd_wj (by decide), e6, rd_wk (by decide)]; exact y3
  have l11 : rd M11 136 (2 + l) = rd N 136 (2 + l) := by rw [e11, rd_wk (by decide)]; exact l6
  rw [y11, l11, gy] at e17
  rw [y3] at e6
  have x17 : rd M17 135 21 = rd N 135 21 + goX d (rd N 136 (2 + l)) := by rw [e17, rd_wj (by decide), e11, rd_we]
  have y17 : rd M17 135 22 = rd N 135 22 + goY d (rd N 136 (2 + l)) := by rw [e17, rd_we]
  rw [x17] at e21
  have y21 : rd M21 135 22 = rd N 135 22 + goY d (rd N 136 (2 + l)) := by rw [e21, rd_wk (by decide)]; exact y17
  rw [y21] at e24
  refine ⟨?_, fun j hj => ⟨?_, ?_, ?_, ?_⟩, ?_, ?_, ?_, ?_, ?_, ?_⟩
  · show KS SRl N M24
    rw [e24, e21, e17, e11, e6, e3]
    exact (((((KS.rf.wr (Or.inl (by decide))).wr (Or.inl (by decide))).wr (Or.inr (by decide))).wr (Or.inr (by decide))).wr (Or.inl (by decide))).wr (Or.inl (by decide))
  · show rd M24 141 j = _
    rw [e24, rd_wk (by decide), e21, rd_wk (by decide), e17, rd_wk (by decide), e11, rd_wk (by decide), e6, rd_wk (by decide), e3, rd_wj hj]
  · show rd M24 142 j = _
    rw [e24, rd_wk (by decide), e21, rd_wk (by decide), e17, rd_wk (by decide), e11, rd_wk (by decide), e6, rd_wj hj, e3, rd_wk (by decide)]
  · show rd M24 143 j = _
    rw [e24, rd_wk (by decide), e21, rd_wj hj, e17, rd_wk (by decide), e11, rd_wk (by decide), e6, rd_wk (by decide), e3, rd_wk (by decide)]
  · show rd M24 144 j = _
    rw [e24, rd_wj hj, e21, rd_wk (by decide), e17, rd_wk (by decide), e11, rd_wk (by decide), e6, rd_wk (by decide), e3, rd_wk (by decide)]
  · show rd M24 141 l = _
    rw [e24, rd_wk (by decide), e21, rd_wk (by decide), e17, rd_wk (by decide), e11, rd_wk (by decide), e6, rd_wk (by decide), e3, rd_we]
  · show rd M24 142 l = _
    rw [e24, rd_wk (by decide), e21, rd_wk (by decide), e17, rd_wk (by decide), e11, rd_wk (by decide), e6, rd_we]
  · show rd M24 143 l = _
    rw [e24, rd_wk (by decide), e21, rd_we]
  · show rd M24 144 l = _
    rw [e24, rd_we]
  · show rd M24 135 21 = _
    rw [e24, rd_wk (by decide), e21, rd_wk (by decide)]; exact x17
  · show rd M24 135 22 = _
    rw [e24, rd_wk (by decide), e21, rd_wk (by decide)]; exact y17
end WK
end
/-! part 60t.side -/
section
/-! a side laid alike -/
section WS2
variable {M N M0 N0 : Mem} {f : Nat → Int32} {k k1 : Nat}
/-- the class lays a leg: up to where it turns -/
theorem pc_b108 {ih : Int32 → Int32 → Int32 → Int32 → Int32 → Int32 → Int32 → Int32 → Mem → Option (Mem × Unit)} {x3 x5 x6 x7 x8 x9 x10 v w : Int32} {l : Nat} (hl : l < 9) {P : Mem × Unit → Prop}
    (h : ∀ M', KS (SPl k) M M' → (∀ c j, j ≠ l → rd M' c j = rd M c j) → rd M' (k + 1) l = rd M (k + 1) l → rd M' (k + 2) l = v + w → rd M' (k + 3) l = imin x8 (rd M (k + 1) l) → rd M' (k + 4) l = imax x8 (rd M (k + 1) l) → rd M' (k + 5) l = imin x9 (v + w) → rd M' (k + 6) l = imax x9 (v + w) → Pc (ite2 (x3 ≤ 0) (mX2_walk_b217 k k1 ih x3 x5 x6 x7 (rd M (k + 1) l) (v + w) x10 (Int32.ofNat l) (Int32.ofNat l - (1 : Int32)) M') (mX2_walk_b217 k k1 ih x3 x5 x6 x7 (rd M (k + 1) l) (v + w) x10 (Int32.ofNat l) (Int32.ofNat l) M')) P) :
    Pc (mX2_walk_b108 k k1 ih x3 x5 x6 x7 x8 x9 x10 (Int32.ofNat l) (Int32.ofNat l) v w M) P := by
  unfold mX2_walk_b108
  have cl := c_of (a := l) (by omega)
  rw [cl]
  refine Pc.k (fun _ => Pc.b (fun M15 e15 => Pc.k (fun _ => Pc.k (fun _ => Pc.b (fun M19 e19 => Pc.k (fun _ => Pc.k (fun _ => Pc.b (fun M23 e23 => Pc.k (fun _ => Pc.k (fun _ => Pc.b (fun M27 e27 => Pc.k (fun _ => Pc.k (fun _ => Pc.b (fun M31 e31 => Pc.k (fun _ => Pc.b (fun x ex => Pc.k (fun _ => Pc.b (fun y ey => ?_))))))))))))))))))
  have f15 : rd M15 (k + 1) l = rd M (k + 1) l := by rw [e15, rd_wk (by omega)]
  have g15 : rd M15 (k + 2) l = v + w := by rw [e15, rd_we]
  rw [f15] at e19
  have f19 : rd M19 (k + 1) l = rd M (k + 1) l := by rw [e19, rd_wk (by omega)]; exact f15
  have g19 : rd M19 (k + 2) l = v + w := by rw [e19, rd_wk (by omega)]; exact g15
  rw [f19] at e23
  have g23 : rd M23 (k + 2) l = v + w := by rw [e23, rd_wk (by omega)]; exact g19
  rw [g23] at e27
  have g27 : rd M27 (k + 2) l = v + w := by rw [e27, rd_wk (by omega)]; exact g23
  rw [g27] at e31
  have f31 : rd M31 (k + 1) l = rd M (k + 1) l := by rw [e31, rd_wk (by omega), e27, rd_wk (by omega), e23, rd_wk (by omega)]; exact f19
  have g31 : rd M31 (k + 2) l = v + w := by rw [e31, rd_wk (by omega)]; exact g27
  rw [f31] at ex
  rw [g31] at ey
  subst ex
  subst ey
  refine h M31 ?_ (fun c j hj => ?_) f31 g31 ?_ ?_ ?_ ?_
  · rw [e31, e27, e23, e19, e15]
    exact ((((KS.rf.wr ⟨by omega, by omega⟩).wr ⟨by omega, by omega⟩).wr ⟨by omega, by omega⟩).wr ⟨by omega, by omega⟩).wr ⟨by omega, by omega⟩
  · rw [e31, rd_eq, if_neg (by omega), e27, rd_eq, if_neg (by omega), e23, rd_eq, if_neg (by omega), e19, rd_eq, if_neg (by omega), e15, rd_eq, if_neg (by omega)]
  · rw [e31, rd_wk (by omega), e27, rd_wk (by omega), e23, rd_wk (by omega), e19, rd_we]
  · rw [e31, rd_wk (by omega), e27, rd_wk (by omega), e23, rd_we]
  · rw [e31, rd_wk (by omega), e27, rd_we]
  · rw [e31, rd_we]
theorem pc_layL {ih : Int32 → Int32 → Int32 → Int32 → Int32 → Int32 → Int32 → Int32 → Mem → Option (Mem × Unit)} {x3 x5 x6 x7 x8 x9 d len : Int32} {l : Nat} (hl : l < 9) {P : Mem × Unit → Prop}
    (h : ∀ M', KS (SPl k) M M' → (∀ c j, j ≠ l → rd M' c j = rd M c j) → rd M' (k + 1) l = x8 + goX d len → rd M' (k + 2) l = x9 + goY d len → rd M' (k + 3) l = imin x8 (x8 + goX d len) → rd M' (k + 4) l = imax x8 (x8 + goX d len) → rd M' (k + 5) l = imin x9 (x9 + goY d len) → rd M' (k + 6) l = imax x9 (x9 + goY d len) → Pc (ite2 (x3 ≤ 0) (mX2_walk_b217 k k1 ih x3 x5 x6 x7 (x8 + goX d len) (x9 + goY d len) d (Int32.ofNat l) (Int32.ofNat l - (1 : Int32)) M') (mX2_walk_b217 k k1 ih x3 x5 x6 x7 (x8 + goX d len) (x9 + goY d len) d (Int32.ofNat l) (Int32.ofNat l) M')) P) :
    Pc (ite2 (d = (1 : Int32)) (mX2_walk_b75 k k1 ih x3 x5 x6 x7 x8 x9 d (Int32.ofNat l) len (Int32.ofNat l) x8 len M) (ite2 (d = (3 : Int32)) (mX2_walk_b75 k k1 ih x3 x5 x6 x7 x8 x9 d (Int32.ofNat l) len (Int32.ofNat l) x8 (-len) M) (mX2_walk_b75 k k1 ih x3 x5 x6 x7 x8 x9 d (Int32.ofNat l) len (Int32.ofNat l) x8 (0 : Int32) M))) P := by
  have cl := c_of (a := l) (by omega)
  have go : ∀ v : Int32, v = goX d len → Pc (mX2_walk_b75 k k1 ih x3 x5 x6 x7 x8 x9 d (Int32.ofNat l) len (Int32.ofNat l) x8 v M) P := by
    intro v hv
    unfold mX2_walk_b75
    rw [cl]
    refine Pc.k (fun _ => Pc.b (fun M10 e10 => ?_))
    have f10 : rd M10 (k + 1) l = x8 + goX d len := by rw [e10, rd_we, hv]
    have k10 : KS (SPl k) M M10 := by rw [e10]; exact KS.rf.wr ⟨by omega, by omega⟩
    have j10 : ∀ c j, j ≠ l → rd M10 c j = rd M c j := fun c j hj => by rw [e10, rd_eq, if_neg (by omega)]
    have fin : ∀ w : Int32, w = goY d len → Pc (mX2_walk_b108 k k1 ih x3 x5 x6 x7 x8 x9 d (Int32.ofNat l) (Int32.ofNat l) x9 w M10) P := by
      intro w hw
      refine pc_b108 hl (fun M' kM jM h1 h2 h3 h4 h5 h6 => ?_)
      rw [f10] at h1 h3 h4 ⊢
      rw [hw] at h2 h5 h6 ⊢
      exact h M' (k10.trans kM) (fun c j hj => (jM c j hj).trans (j10 c j hj)) h1 h2 h3 h4 h5 h6
    unfold goY at fin
    refine Pc.i (fun c => ?_) (fun c => Pc.i (fun c2 => ?_) (fun c2 => ?_))
    · exact fin len (by rw [if_pos c])
    · exact fin (-len) (by rw [if_neg c, if_pos c2])
    · exact fin 0 (by rw [if_neg c, if_neg c2])
  unfold goX at go
  refine Pc.i (fun c => ?_) (fun c => Pc.i (fun c2 => ?_) (fun c2 => ?_))
  · exact go len (by rw [if_pos c])
  · exact go (-len) (by rw [if_neg c, if_pos c2])
  · exact go 0 (by rw [if_neg c, if_neg c2])
/-- the turn over a bend -/
def turnS (up : Nat → Bool) (a n t d : Nat) (b : Int) : Nat := if 0 ≤ b ∧ b < (n : Int) ∧ a.testBit b.toNat then (d + (if up b.toNat then t else 4 - t)) % 4 else d
theorem pc_b217 {ih : Int32 → Int32 → Int32 → Int32 → Int32 → Int32 → Int32 → Int32 → Mem → Option (Mem × Unit)} {up : Nat → Bool} {x3 x7 x8 x9 x11 y : Int32} {a n t d : Nat} {P : Mem × Unit → Prop} (ha : a < 2 ^ n) (hn : n ≤ 8) (ht : t < 4) (ht0 : 0 < t) (hd : d < 4) (hy : -1 ≤ y.toInt ∧ y.toInt ≤ 8) (hu : ∀ b, b < n → ((((x7 >>> (Int32.ofNat b &&& 31)) &&& (1 : Int32)) = 0) ↔ up b = false))
    (h : Pc (mX2_walk_b272 k k1 ih x3 (Int32.ofNat t) (Int32.ofNat a) x7 x8 x9 (Int32.ofNat (turnS up a n t d y.toInt)) x11 M) P) : Pc (mX2_walk_b217 k k1 ih x3 (Int32.ofNat t) (Int32.ofNat a) x7 x8 x9 (Int32.ofNat d) x11 y M) P := by
  have h256 : a < 256 := by
    have : 2 ^ n ≤ 2 ^ 8 := Nat.pow_le_pow_right (by decide) hn
    have h8 : (2 : Nat) ^ 8 = 256 := rfl
    omega
  unfold mX2_walk_b217
  refine Pc.i (fun c => ?_) (fun c => ?_)
  · have c : y.toInt < 0 := i_lt.mp c
    unfold turnS at h
    rw [if_neg (by omega)] at h
    exact h
  · have c : 0 ≤ y.toInt := i_nlt c
    have ey : y = Int32.ofNat y.toInt.toNat := o_of c
    have hb := f_has0 a h256 y.toInt.toNat (by omega)
    rw [← ey] at hb
    refine Pc.i (fun c1 => ?_) (fun c1 => ?_)
    · have q := hb.mp c1
      unfold turnS at h
      rw [if_neg (fun z => by rw [q] at z; exact absurd z.2.2 (by decide))] at h
      exact h
    · have q : a.testBit y.toInt.toNat = true := by
        cases e : a.testBit y.toInt.toNat with
        | true => rfl
        | false => exact absurd (hb.mpr e) c1
      have hlt : y.toInt.toNat < n := by
        apply Decidable.byContradiction
        intro z
        have : a < 2 ^ y.toInt.toNat := Nat.lt_of_lt_of_le ha (Nat.pow_le_pow_right (by decide) (by omega))
        rw [Nat.testBit_lt_two_pow this] at q
        exact absurd q (by decide)
      have hub := hu y.toInt.toNat hlt
      rw [← ey] at hub
      unfold turnS at h
      rw [if_pos ⟨c, by omega, q⟩] at h
      unfold mX2_walk_b249 mX2_walk_b267
      have e4 : (4 : Int32) - Int32.ofNat t = Int32.ofNat (4 - t) := by
        rw [i_eq, i_sub (by rw [t_of (by omega)]; show (-2147483648 : Int) ≤ 4 - _; omega) (by rw [t_of (by omega)]; show (4 : Int) - _ ≤ _; omega), t_of (by omega), t_of (by omega)]
        show (4 : Int) - _ = _
        omega
      refine Pc.i (fun c2 => Pc.i (fun _ => Pc.b (fun z ez => ?_)) (fun z => absurd rfl z)) (fun c2 => Pc.i (fun z => absurd z (by decide)) (fun _ => Pc.b (fun z ez => ?_)))
      · rw [hub.mp c2] at h
        rw [e4, (f_turn d hd (4 - t) (by omega)).1] at ez
        rw [ez]; exact h
      · have u : up y.toInt.toNat = true := by
          cases e : up y.toInt.toNat with
          | true => rfl
          | false => exact absurd (hub.mpr e) c2
        rw [u] at h
        rw [(f_turn d hd t ht).1] at ez
        rw [ez]; exact h
theorem pc_b53 {ih : Int32 → Int32 → Int32 → Int32 → Int32 → Int32 → Mem → Option (Mem × Unit)} {up : Nat → Bool} {x2 x5 x8 y : Int32} {a n t d : Nat} {P : Mem × Unit → Prop} (ha : a < 2 ^ n) (hn : n ≤ 8) (ht : t < 4) (ht0 : 0 < t) (hd : d < 4) (hy : -1 ≤ y.toInt ∧ y.toInt ≤ 8) (h0 : (rd N 136 0).toInt = (n : Int)) (hu : ∀ b, b < n → (up b = true ↔ ((rd N 136 (11 + b) = 1 ∧ ¬ x5 = 1) ∨ (¬ rd N 136 (11 + b) = 1 ∧ ¬ x5 = 0))))
    (h : Pc (mX7_laySide_b136 135 ih x2 (Int32.ofNat t) x5 (Int32.ofNat a) (Int32.ofNat (turnS up a n t d y.toInt)) x8 N) P) : Pc (mX7_laySide_b53 135 ih x2 (Int32.ofNat t) x5 (Int32.ofNat a) (Int32.ofNat d) x8 y N) P := by
  have h256 : a < 256 := by
    have : 2 ^ n ≤ 2 ^ 8 := Nat.pow_le_pow_right (by decide) hn
    have h8 : (2 : Nat) ^ 8 = 256 := rfl
    omega
  have n1 : ((1 : Int32)).toInt = 1 := rfl
  have n11 : ((11 : Int32)).toInt = 11 := rfl
  have e1 : (rd N (135 + 1) ((0 : Int32)).toNatClampNeg - 1).toInt = (n : Int) - 1 := by
    show (rd N 136 0 - 1).toInt = _
    rw [i_sub (by omega) (by omega)]; omega
  unfold mX7_laySide_b53
  refine Pc.k (fun _ => Pc.c (pc_btw (Int32.toInt_toInt64 _) (b := 0) (by decide) (Int32.toInt_toInt64 _)) (fun r14 p14 => ?_))
  rw [e1] at p14
  rcases p14 with ⟨rfl, p14⟩ | ⟨rfl, p14⟩
  · refine Pc.i (fun z => absurd z (by decide)) (fun _ => ?_)
    have ey : y = Int32.ofNat y.toInt.toNat := o_of p14.1
    have hb := f_has a h256 y.toInt.toNat (by omega)
    rw [← ey] at hb
    unfold mX7_has
    refine Pc.c (Q := fun r => (r = 1 ∧ a.testBit y.toInt.toNat = true) ∨ (r = 0 ∧ a.testBit y.toInt.toNat = false)) (Pc.i (fun c => Pc.ok (Or.inl ⟨rfl, hb.mp c⟩)) (fun c => Pc.ok (Or.inr ⟨rfl, ?_⟩))) (fun r19 p19 => ?_)
    · cases e : a.testBit y.toInt.toNat with
      | false => rfl
      | true => exact absurd (hb.mpr e) c
    rcases p19 with ⟨rfl, q⟩ | ⟨rfl, q⟩
    · refine Pc.i (fun z => absurd z (by decide)) (fun _ => Pc.k (fun _ => ?_))
      have hub := hu y.toInt.toNat (by omega)
      have ei : ((11 : Int32) + y).toNatClampNeg = 11 + y.toInt.toNat := by rw [i_clamp, i_add (by omega) (by omega)]; omega
      rw [ei]
      unfold turnS at h
      rw [if_pos ⟨p14.1, by omega, q⟩] at h
      unfold mX7_laySide_b103 mX7_laySide_b113 mX7_laySide_b131
      have e4 : (4 : Int32) - Int32.ofNat t = Int32.ofNat (4 - t) := by
        rw [i_eq, i_sub (by rw [t_of (by omega)]; show (-2147483648 : Int) ≤ 4 - _; omega) (by rw [t_of (by omega)]; show (4 : Int) - _ ≤ _; omega), t_of (by omega), t_of (by omega)]
        show (4 : Int) - _ = _
        omega
      have no : up y.toInt.toNat = false → Pc (bnd (((Int32.ofNat d + ((4 : Int32) - Int32.ofNat t)) - (Int32.ofNat d + ((4 : Int32) - Int32.ofNat t)) / (4 : Int32) * (4 : Int32))) (fun x7_134 => mX7_laySide_b136 135 ih x2 (Int32.ofNat t) x5 (Int32.ofNat a) x7_134 x8 N)) P := by
        intro u
        rw [u] at h
        refine Pc.b (fun z ez => ?_)
        rw [e4, (f_turn d hd (4 - t) (by omega)).2] at ez
        rw [ez]; exact h
      have ye : up y.toInt.toNat = true → Pc (bnd (((Int32.ofNat d + Int32.ofNat t) - (Int32.ofNat d + Int32.ofNat t) / (4 : Int32) * (4 : Int32))) (fun x7_134 => mX7_laySide_b136 135 ih x2 (Int32.ofNat t) x5 (Int32.ofNat a) x7_134 x8 N)) P := by
        intro u
        rw [u] at h
        refine Pc.b (fun z ez => ?_)
        rw [(f_turn d hd t ht).2] at ez
        rw [ez]; exact h
      have nf : ¬ ((rd N 136 (11 + y.toInt.toNat) = 1 ∧ ¬ x5 = 1) ∨ (¬ rd N 136 (11 + y.toInt.toNat) = 1 ∧ ¬ x5 = 0)) → up y.toInt.toNat = false := fun z => by
        cases e : up y.toInt.toNat with
        | false => rfl
        | true => exact absurd (hub.mp e) z
      refine Pc.i (fun c1 => Pc.i (fun c2 => Pc.i (fun _ => no (nf ?_)) (fun z => absurd rfl z)) (fun c2 => Pc.i (fun z => absurd z (by decide)) (fun _ => ye (hub.mpr (Or.inl ⟨c1, fun z => c2 z.symm⟩))))) (fun c1 => Pc.i (fun c2 => Pc.i (fun _ => no (nf ?_)) (fun z => absurd rfl z)) (fun c2 => Pc.i (fun z => absurd z (by decide)) (fun _ => ye (hub.mpr (Or.inr ⟨c1, fun z => c2 z.symm⟩)))))
      · intro z
        rcases z with ⟨_, z⟩ | ⟨z, _⟩
        · exact z c2.symm
        · exact z c1
      · intro z
        rcases z with ⟨z, _⟩ | ⟨_, z⟩
        · exact c1 z
        · exact z c2.symm
    · refine Pc.i (fun _ => ?_) (fun z => absurd rfl z)
      unfold turnS at h
      rw [if_neg (fun z => by rw [q] at z; exact absurd z.2.2 (by decide))] at h
      exact h
  · refine Pc.i (fun _ => ?_) (fun z => absurd rfl z)
    unfold turnS at h
    rw [if_neg (by omega)] at h
    exact h
end WS2
end
/-! part 60u.lay -/
section
/-! a side, a step's sheet: laid alike -/
section LW
variable {M N M0 N0 : Mem} {f : Nat → Int32} {k k1 : Nat}
/-- what a walk looks at -/
def WI (k k1 : Nat) (up : Nat → Bool) (n : Nat) (x5 : Int32) (M N : Mem) : Prop := rd M k 6 = rd N 136 1 ∧ (0 ≤ (rd N 136 1).toInt ∧ (rd N 136 1).toInt ≤ 9) ∧ (∀ j : Nat, (j : Int) < (rd N 136 1).toInt → rd M (k1 + 1) j = rd N 136 (2 + j)) ∧ (rd N 136 0).toInt = (n : Int) ∧ (∀ b, b < n → (up b = true ↔ ((rd N 136 (11 + b) = 1 ∧ ¬ x5 = 1) ∨ (¬ rd N 136 (11 + b) = 1 ∧ ¬ x5 = 0))))
theorem WI.ks {up : Nat → Bool} {n : Nat} {x5 : Int32} {M' N' : Mem} (h : WI k k1 up n x5 M N) (hd : k1 + 8 ≤ k ∨ k + 7 ≤ k1) (hM : KS (SPl k) M M') (hN : KS SRl N N') : WI k k1 up n x5 M' N' := by
  have e : ∀ j, rd N' 136 j = rd N 136 j := fun j => hN 136 j (by unfold SRl; omega)
  obtain ⟨h1, h2, h3, h4, h5⟩ := h
  refine ⟨?_, ?_, fun j hj => ?_, ?_, fun b hb => ?_⟩
  · rw [hM k 6 (by unfold SPl; omega), e]; exact h1
  · rw [e]; exact h2
  · rw [e] at hj
    rw [hM (k1 + 1) j (by unfold SPl; omega), e]; exact h3 j hj
  · rw [e]; exact h4
  · rw [e]; exact h5 b hb
def vis (s l : Int) (j : Nat) : Prop := if s = 1 then l ≤ (j : Int) else (j : Int) ≤ l
/-- what two walks give -/
def WR (k : Nat) (s l : Int) (M N M' N' : Mem) : Prop := KS (SPl k) M M' ∧ KS SRl N N' ∧ (∀ j : Nat, (j : Int) < (rd N 136 1).toInt → (LG k M N j ∨ vis s l j) → LG k M' N' j) ∧ (∀ c j : Nat, ¬ vis s l j → rd M' c j = rd M c j) ∧ (∀ c j : Nat, 141 ≤ c ∧ c ≤ 144 → ¬ vis s l j → rd N' c j = rd N c j)
theorem walk_l {up : Nat → Bool} {n a t : Nat} {x5 x7 s : Int32} (hd8 : k1 + 8 ≤ k ∨ k + 7 ≤ k1) (hs : s = 1 ∨ s = -1) (ha : a < 2 ^ n) (hn : n ≤ 8) (ht : t < 4) (ht0 : 0 < t) (hu : ∀ b, b < n → ((((x7 >>> (Int32.ofNat b &&& 31)) &&& (1 : Int32)) = 0) ↔ up b = false)) :
    ∀ (nf mf : Nat) (l : Int32) (d : Nat) (x y : Int32) (M N : Mem), WI k k1 up n x5 M N → d < 4 → (-1 ≤ l.toInt ∧ l.toInt ≤ 9) → (s = -1 → l.toInt < (rd N 136 1).toInt) → (s = 1 → 0 ≤ l.toInt) → x = rd N 135 21 → y = rd N 135 22 →
    R2 (mX2_walk_l13 k k1 nf s (Int32.ofNat t) (Int32.ofNat a) x7 x y (Int32.ofNat d) l M) (mX7_laySide_l16 135 mf s (Int32.ofNat t) x5 (Int32.ofNat a) (Int32.ofNat d) l N) (fun p q => WR k s.toInt l.toInt M N p.1 q.1) := by
  intro nf
  induction nf with
  | zero => intro mf l d x y M N _ _ _ _ _ _ _; exact R2.nl
  | succ nf IH =>
    intro mf l d x y M N h hd hl hs1 hs2 hx hy
    cases mf with
    | zero => exact R2.nr
    | succ mf =>
      show R2 (mX2_walk_b13 k k1 (mX2_walk_l13 k k1 nf) s (Int32.ofNat t) (Int32.ofNat a) x7 x y (Int32.ofNat d) l M) (mX7_laySide_b16 135 (mX7_laySide_l16 135 mf) s (Int32.ofNat t) x5 (Int32.ofNat a) (Int32.ofNat d) l N) _
      have sv : s.toInt = 1 ∨ s.toInt = -1 := by
        rcases hs with e | e
        · left; rw [e]; rfl
        · right; rw [e]; rfl
      have h1 := h.1; have h2 := h.2.1; have h3 := h.2.2.1; have h4 := h.2.2.2.1
      have stop : (l.toInt < 0 ∨ (rd N 136 1).toInt ≤ l.toInt) → ∀ j : Nat, (j : Int) < (rd N 136 1).toInt → (LG k M N j ∨ vis s.toInt l.toInt j) → LG k M N j := by
        intro hq j hj hv
        rcases hv with hv | hv
        · exact hv
        · exfalso
          unfold vis at hv
          rcases hs with e | e
          · have e1 : s.toInt = 1 := by rw [e]; rfl
            rw [if_pos e1] at hv
            have := hs2 e
            omega
          · have e1 : ¬ s.toInt = 1 := by rw [e]; decide
            rw [if_neg e1] at hv
            have := hs1 e
            omega
      unfold mX2_walk_b13 mX7_laySide_b16
      refine R2.il (fun c => R2.ir (fun _ => R2.ok ⟨KS.rf, KS.rf, stop (Or.inl ?_), fun _ _ _ => rfl, fun _ _ _ _ => rfl⟩) (fun z => absurd c z)) (fun c => R2.ir (fun z => absurd z c) (fun _ => R2.kr (fun _ => ?_)))
      · have c := i_lt.mp c; exact c
      have c : 0 ≤ l.toInt := i_nlt c
      rw [h1]
      refine R2.il (fun c2 => R2.ir (fun _ => R2.ok ⟨KS.rf, KS.rf, stop (Or.inr ?_), fun _ _ _ => rfl, fun _ _ _ _ => rfl⟩) (fun z => absurd c2 z)) (fun c2 => R2.ir (fun z => absurd z c2) (fun _ => ?_))
      · have c2 := i_le.mp c2; exact c2
      have c2 : l.toInt < (rd N 136 1).toInt := i_nle c2
      obtain ⟨j0, hj0⟩ : ∃ j0 : Nat, l.toInt = (j0 : Int) := ⟨l.toInt.toNat, by omega⟩
      have el : l = Int32.ofNat j0 := by rw [o_of c, hj0]; rfl
      have cl := c_of (a := j0) (by omega)
      refine R2.il (fun c9 => ?_) (fun _ => R2.kl (fun _ => R2.bl (fun len elen => ?_)))
      · have c9 := i_le.mp c9
        rw [show ((9 : Int32)).toInt = 9 from rfl] at c9
        exfalso; omega
      rw [el] at elen ⊢
      rw [cl, h3 j0 (by omega)] at elen
      -- the leg, laid by both; then the turn; then the rest
      intro p q hp hq
      obtain ⟨N1, u, q1, q2⟩ := cal_s hq
      obtain ⟨kN, oN, a1, a2, a3, a4, a5, a6⟩ := pc_layLeg (l := j0) (by omega) _ q1
      have kN : KS SRl N N1 := kN
      have n1 : ((1 : Int32)).toInt = 1 := rfl
      have es := i_sub (a := Int32.ofNat j0) (b := 1) (by rw [← el]; omega) (by rw [← el]; omega)
      have tl : (Int32.ofNat j0).toInt = (j0 : Int) := by rw [← el]; exact hj0
      rw [← elen, ← hx] at a3 a5
      rw [← elen, ← hy] at a4 a6
      rw [← hx] at a1
      rw [← hy] at a2
      refine pc_layL (k := k) (k1 := k1) (by omega) (P := fun p => WR k s.toInt (Int32.ofNat j0).toInt M N p.1 q.1) (fun M1 kM oM b1 b2 b3 b4 b5 b6 => ?_) p hp
      have hW1 : WI k k1 up n x5 M1 N1 := h.ks hd8 kM kN
      have lj : LG k M1 N1 j0 := by
        refine ⟨?_, ?_, ?_, ?_, ?_, ?_⟩
        · rw [b1]; exact a3.symm
        · rw [b2]; exact a4.symm
        · rw [b3, show rd N1 141 j0 = x from a1, show rd N1 143 j0 = x + goX (Int32.ofNat d) len from a3]
        · rw [b4, show rd N1 141 j0 = x from a1, show rd N1 143 j0 = x + goX (Int32.ofNat d) len from a3]
        · rw [b5, show rd N1 142 j0 = y from a2, show rd N1 144 j0 = y + goY (Int32.ofNat d) len from a4]
        · rw [b6, show rd N1 142 j0 = y from a2, show rd N1 144 j0 = y + goY (Int32.ofNat d) len from a4]
      have lo : ∀ j : Nat, j ≠ j0 → LG k M N j → LG k M1 N1 j := by
        intro j hj hg
        obtain ⟨o1, o2, o3, o4⟩ := oN j hj
        unfold LG
        rw [oM _ _ hj, oM _ _ hj, oM _ _ hj, oM _ _ hj, oM _ _ hj, oM _ _ hj]
        have o1 : rd N1 141 j = rd N 141 j := o1
        have o2 : rd N1 142 j = rd N 142 j := o2
        have o3 : rd N1 143 j = rd N 143 j := o3
        have o4 : rd N1 144 j = rd N 144 j := o4
        rw [o1, o2, o3, o4]
        exact hg
      have l1 : rd N1 136 1 = rd N 136 1 := kN 136 1 (by unfold SRl; omega)
      -- the rest
      have rest : ∀ (yb : Int32), (-1 ≤ yb.toInt ∧ yb.toInt ≤ 8) → mX7_laySide_b53 135 (mX7_laySide_l16 135 mf) s (Int32.ofNat t) x5 (Int32.ofNat a) (Int32.ofNat d) (Int32.ofNat j0) yb N1 = some q → Pc (mX2_walk_b217 k k1 (mX2_walk_l13 k k1 nf) s (Int32.ofNat t) (Int32.ofNat a) x7 (x + goX (Int32.ofNat d) len) (y + goY (Int32.ofNat d) len) (Int32.ofNat d) (Int32.ofNat j0) yb M1) (fun p => WR k s.toInt (Int32.ofNat j0).toInt M N p.1 q.1) := by
        intro yb hyb hq3
        refine pc_b217 ha hn ht ht0 hd hyb hu ?_
        refine pc_b53 (N := N1) (P := fun q => Pc (mX2_walk_b272 k k1 (mX2_walk_l13 k k1 nf) s (Int32.ofNat t) (Int32.ofNat a) x7 (x + goX (Int32.ofNat d) len) (y + goY (Int32.ofNat d) len) (Int32.ofNat (turnS up a n t d yb.toInt)) (Int32.ofNat j0) M1) (fun p => WR k s.toInt (Int32.ofNat j0).toInt M N p.1 q.1)) ha hn ht ht0 hd hyb hW1.2.2.2.1 hW1.2.2.2.2 ?_ q hq3
        intro q' hq' p' hp'
        unfold mX7_laySide_b136 at hq'
        unfold mX2_walk_b272 at hp'
        obtain ⟨z, ez, hq'⟩ := bnd_s hq'
        obtain ⟨z', ez', hp'⟩ := bnd_s hp'
        rw [← ez] at ez'
        subst ez'
        have tz : z'.toInt = (j0 : Int) + s.toInt := by
          rw [ez, i_add (by rw [tl]; omega) (by rw [tl]; omega), tl]
        have hd' : turnS up a n t d yb.toInt < 4 := by
          unfold turnS
          split
          · exact Nat.mod_lt _ (by decide)
          · exact hd
        have r := IH mf z' (turnS up a n t d yb.toInt) (x + goX (Int32.ofNat d) len) (y + goY (Int32.ofNat d) len) M1 N1 hW1 hd' (by omega) (fun e => by rw [l1]; rw [e] at tz; rw [show ((-1 : Int32)).toInt = -1 from rfl] at tz; omega) (fun e => by rw [e] at tz; omega) a5.symm a6.symm _ _ hp' hq'
        have nv : ∀ j : Nat, ¬ vis s.toInt (Int32.ofNat j0).toInt j → j ≠ j0 ∧ ¬ vis s.toInt z'.toInt j := by
          intro j hv
          unfold vis at hv ⊢
          rw [tl] at hv
          rw [tz]
          rcases sv with e1 | e1
          · rw [if_pos e1] at hv ⊢; omega
          · rw [if_neg (by omega)] at hv ⊢; omega
        refine ⟨kM.trans r.1, kN.trans r.2.1, fun j hj hv => r.2.2.1 j (by rw [l1]; exact hj) ?_, fun c j hv => ?_, fun c j hc hv => ?_⟩
        · by_cases e : j = j0
          · left; rw [e]; exact lj
          · rcases hv with hv | hv
            · left; exact lo j e hv
            · right
              unfold vis at hv ⊢
              rw [tl] at hv
              rw [tz]
              rcases sv with e1 | e1
              · rw [if_pos e1] at hv ⊢; omega
              · rw [if_neg (by omega)] at hv ⊢; omega
        · obtain ⟨n1, n2⟩ := nv j hv
          rw [r.2.2.2.1 c j n2]; exact oM c j n1
        · obtain ⟨n1, n2⟩ := nv j hv
          rw [r.2.2.2.2 c j hc n2]
          obtain ⟨o1, o2, o3, o4⟩ := oN j n1
          have h4 : c = 141 ∨ c = 142 ∨ c = 143 ∨ c = 144 := by omega
          rcases h4 with rfl | rfl | rfl | rfl
          · exact o1
          · exact o2
          · exact o3
          · exact o4
      refine Pc.i (fun cs => ?_) (fun cs => ?_)
      · have q2 := ite_t cs q2
        exact rest _ (by omega) q2
      · have q2 := ite_f cs q2
        exact rest _ (by omega) q2
/-- a side, from its start on -/
theorem side_R {up : Nat → Bool} {n a t d : Nat} {x5 x7 s l st : Int32} (hd8 : k1 + 8 ≤ k ∨ k + 7 ≤ k1) (hs : s = 1 ∨ s = -1) (ha : a < 2 ^ n) (hn : n ≤ 8) (ht : t < 4) (ht0 : 0 < t) (hu : ∀ b, b < n → ((((x7 >>> (Int32.ofNat b &&& 31)) &&& (1 : Int32)) = 0) ↔ up b = false)) (h : WI k k1 up n x5 M N) (hd : d < 4) (hl : -1 ≤ l.toInt ∧ l.toInt ≤ 9) (hs1 : s = -1 → l.toInt < (rd N 136 1).toInt) (hs2 : s = 1 → 0 ≤ l.toInt) (hst : st = Int32.ofNat d) {tt aa : Int32} (htt : tt = Int32.ofNat t) (haa : aa = Int32.ofNat a) :
    R2 (mX2_walk k k1 l s st tt aa x7 M) (mX7_laySide 135 l s st tt x5 aa N) (fun p q => WR k s.toInt l.toInt M N p.1 q.1) := by
  subst hst; subst htt; subst haa
  unfold mX2_walk mX7_laySide
  refine R2.br (fun N1 e1 => R2.br (fun N2 e2 => ?_))
  have kN : KS SRl N N2 := by rw [e2, e1]; exact (KS.rf.wr (Or.inr (by decide))).wr (Or.inr (by decide))
  have q136 : ∀ j, rd N2 136 j = rd N 136 j := fun j => kN 136 j (by unfold SRl; omega)
  have oc : ∀ c j, 141 ≤ c ∧ c ≤ 144 → rd N2 c j = rd N c j := fun c j hc => by rw [e2, rd_wk (by omega), e1, rd_wk (by omega)]
  have hW : WI k k1 up n x5 M N2 := h.ks hd8 KS.rf kN
  have h21 : (0 : Int32) = rd N2 135 21 := by rw [e2, rd_wj (by decide), e1, rd_we]
  have h22 : (0 : Int32) = rd N2 135 22 := by rw [e2, rd_we]
  refine R2.mono (walk_l hd8 hs ha hn ht ht0 hu 5000 5000 l d 0 0 M N2 hW hd hl (by rw [q136]; exact hs1) hs2 h21 h22) (fun p q r => ⟨r.1, kN.trans r.2.1, fun j hj hv => r.2.2.1 j (by rw [q136]; exact hj) ?_, r.2.2.2.1, fun c j hc hv => ?_⟩)
  · rcases hv with hv | hv
    · left
      unfold LG at hv ⊢
      rw [oc 141 j (by omega), oc 142 j (by omega), oc 143 j (by omega), oc 144 j (by omega)]
      exact hv
    · exact Or.inr hv
  · rw [r.2.2.2.2 c j hc hv]; exact oc c j hc
end LW
end
/-! part 60u2.frl -/
section
/-! what a walk writes (printed) -/
section FFpls
variable {M0 : Mem}
theorem pX2_walk_b272 {k0 : Nat} {k1 : Nat} {ih13 : Int32 → Int32 → Int32 → Int32 → Int32 → Int32 → Int32 → Int32 → Mem → Option (Mem × Unit)} {x3 : Int32} {x5 : Int32} {x6 : Int32} {x7 : Int32} {x8 : Int32} {x9 : Int32} {x10 : Int32} {x11 : Int32} {M : Mem} (hih13 : ∀ (v0 : Int32) (v1 : Int32) (v2 : Int32) (v3 : Int32) (v4 : Int32) (v5 : Int32) (v6 : Int32) (v7 : Int32) (v8 : Mem), KS (SPl k0) M0 v8 → Fr (SPl k0) M0 (ih13 v0 v1 v2 v3 v4 v5 v6 v7 v8)) (hM : KS (SPl k0) M0 M) : Fr (SPl k0) M0 (mX2_walk_b272 k0 k1 ih13 x3 x5 x6 x7 x8 x9 x10 x11 M) := by
  unfold mX2_walk_b272
  exact (Fr.b (fun x11_276 => (hih13 _ _ _ _ _ _ _ _ _ hM)))
theorem pX2_walk_b267 {k0 : Nat} {k1 : Nat} {ih13 : Int32 → Int32 → Int32 → Int32 → Int32 → Int32 → Int32 → Int32 → Mem → Option (Mem × Unit)} {x3 : Int32} {x5 : Int32} {x6 : Int32} {x7 : Int32} {x8 : Int32} {x9 : Int32} {x11 : Int32} {y0 : Int32} {y1 : Int32} {M : Mem} (hih13 : ∀ (v0 : Int32) (v1 : Int32) (v2 : Int32) (v3 : Int32) (v4 : Int32) (v5 : Int32) (v6 : Int32) (v7 : Int32) (v8 : Mem), KS (SPl k0) M0 v8 → Fr (SPl k0) M0 (ih13 v0 v1 v2 v3 v4 v5 v6 v7 v8)) (hM : KS (SPl k0) M0 M) : Fr (SPl k0) M0 (mX2_walk_b267 k0 k1 ih13 x3 x5 x6 x7 x8 x9 x11 y0 y1 M) := by
  unfold mX2_walk_b267
  exact (Fr.b (fun x10_270 => (pX2_walk_b272 hih13 hM)))
theorem pX2_walk_b249 {k0 : Nat} {k1 : Nat} {ih13 : Int32 → Int32 → Int32 → Int32 → Int32 → Int32 → Int32 → Int32 → Mem → Option (Mem × Unit)} {x3 : Int32} {x5 : Int32} {x6 : Int32} {x7 : Int32} {x8 : Int32} {x9 : Int32} {x10 : Int32} {x11 : Int32} {y0 : Int32} {M : Mem} (hih13 : ∀ (v0 : Int32) (v1 : Int32) (v2 : Int32) (v3 : Int32) (v4 : Int32) (v5 : Int32) (v6 : Int32) (v7 : Int32) (v8 : Mem), KS (SPl k0) M0 v8 → Fr (SPl k0) M0 (ih13 v0 v1 v2 v3 v4 v5 v6 v7 v8)) (hM : KS (SPl k0) M0 M) : Fr (SPl k0) M0 (mX2_walk_b249 k0 k1 ih13 x3 x5 x6 x7 x8 x9 x10 x11 y0 M) := by
  unfold mX2_walk_b249
  exact (Fr.i (pX2_walk_b267 hih13 hM) (pX2_walk_b267 hih13 hM))
theorem pX2_walk_b217 {k0 : Nat} {k1 : Nat} {ih13 : Int32 → Int32 → Int32 → Int32 → Int32 → Int32 → Int32 → Int32 → Mem → Option (Mem × Unit)} {x3 : Int32} {x5 : Int32} {x6 : Int32} {x7 : Int32} {x8 : Int32} {x9 : Int32} {x10 : Int32} {x11 : Int32} {y0 : Int32} {M : Mem} (hih13 : ∀ (v0 : Int32) (v1 : Int32) (v2 : Int32) (v3 : Int32) (v4 : Int32) (v5 : Int32) (v6 : Int32) (v7 : Int32) (v8 : Mem), KS (SPl k0) M0 v8 → Fr (SPl k0) M0 (ih13 v0 v1 v2 v3 v4 v5 v6 v7 v8)) (hM : KS (SPl k0) M0 M) : Fr (SPl k0) M0 (mX2_walk_b217 k0 k1 ih13 x3 x5 x6 x7 x8 x9 x10 x11 y0 M) := by
  unfold mX2_walk_b217
  exact (Fr.i (pX2_walk_b272 hih13 hM) (Fr.i (pX2_walk_b272 hih13 hM) (Fr.i (pX2_walk_b249 hih13 hM) (pX2_walk_b249 hih13 hM))))
theorem pX2_walk_b108 {k0 : Nat} {k1 : Nat} {ih13 : Int32 → Int32 → Int32 → Int32 → Int32 → Int32 → Int32 → Int32 → Mem → Option (Mem × Unit)} {x3 : Int32} {x5 : Int32} {x6 : Int32} {x7 : Int32} {x8 : Int32} {x9 : Int32} {x10 : Int32} {x11 : Int32} {y1 : Int32} {y2 : Int32} {y3 : Int32} {M : Mem} (hih13 : ∀ (v0 : Int32) (v1 : Int32) (v2 : Int32) (v3 : Int32) (v4 : Int32) (v5 : Int32) (v6 : Int32) (v7 : Int32) (v8 : Mem), KS (SPl k0) M0 v8 → Fr (SPl k0) M0 (ih13 v0 v1 v2 v3 v4 v5 v6 v7 v8)) (hM : KS (SPl k0) M0 M) : Fr (SPl k0) M0 (mX2_walk_b108 k0 k1 ih13 x3 x5 x6 x7 x8 x9 x10 x11 y1 y2 y3 M) := by
  unfold mX2_walk_b108
  exact (Fr.k (Fr.bw ⟨by omega, by omega⟩ hM (fun M15 hM15 => (Fr.k (Fr.k (Fr.bw ⟨by omega, by omega⟩ hM15 (fun M19 hM19 => (Fr.k (Fr.k (Fr.bw ⟨by omega, by omega⟩ hM19 (fun M23 hM23 => (Fr.k (Fr.k (Fr.bw ⟨by omega, by omega⟩ hM23 (fun M27 hM27 => (Fr.k (Fr.k (Fr.bw ⟨by omega, by omega⟩ hM27 (fun M31 hM31 => (Fr.k (Fr.b (fun x8_193 => (Fr.k (Fr.b (fun x9_202 => (Fr.i (pX2_walk_b217 hih13 hM31) (pX2_walk_b217 hih13 hM31)))))))))))))))))))))))))))
theorem pX2_walk_b75 {k0 : Nat} {k1 : Nat} {ih13 : Int32 → Int32 → Int32 → Int32 → Int32 → Int32 → Int32 → Int32 → Mem → Option (Mem × Unit)} {x3 : Int32} {x5 : Int32} {x6 : Int32} {x7 : Int32} {x8 : Int32} {x9 : Int32} {x10 : Int32} {x11 : Int32} {x12 : Int32} {y1 : Int32} {y2 : Int32} {y3 : Int32} {M : Mem} (hih13 : ∀ (v0 : Int32) (v1 : Int32) (v2 : Int32) (v3 : Int32) (v4 : Int32) (v5 : Int32) (v6 : Int32) (v7 : Int32) (v8 : Mem), KS (SPl k0) M0 v8 → Fr (SPl k0) M0 (ih13 v0 v1 v2 v3 v4 v5 v6 v7 v8)) (hM : KS (SPl k0) M0 M) : Fr (SPl k0) M0 (mX2_walk_b75 k0 k1 ih13 x3 x5 x6 x7 x8 x9 x10 x11 x12 y1 y2 y3 M) := by
  unfold mX2_walk_b75
  exact (Fr.k (Fr.bw ⟨by omega, by omega⟩ hM (fun M10 hM10 => (Fr.i (pX2_walk_b108 hih13 hM10) (Fr.i (pX2_walk_b108 hih13 hM10) (pX2_walk_b108 hih13 hM10))))))
theorem pX2_walk_b13 {k0 : Nat} {k1 : Nat} {ih13 : Int32 → Int32 → Int32 → Int32 → Int32 → Int32 → Int32 → Int32 → Mem → Option (Mem × Unit)} {x3 : Int32} {x5 : Int32} {x6 : Int32} {x7 : Int32} {x8 : Int32} {x9 : Int32} {x10 : Int32} {x11 : Int32} {M : Mem} (hih13 : ∀ (v0 : Int32) (v1 : Int32) (v2 : Int32) (v3 : Int32) (v4 : Int32) (v5 : Int32) (v6 : Int32) (v7 : Int32) (v8 : Mem), KS (SPl k0) M0 v8 → Fr (SPl k0) M0 (ih13 v0 v1 v2 v3 v4 v5 v6 v7 v8)) (hM : KS (SPl k0) M0 M) : Fr (SPl k0) M0 (mX2_walk_b13 k0 k1 ih13 x3 x5 x6 x7 x8 x9 x10 x11 M) := by
  unfold mX2_walk_b13
  exact (Fr.i (Fr.ok hM) (Fr.i (Fr.ok hM) (Fr.i (Fr.ok hM) (Fr.k (Fr.b (fun x12_41 => (Fr.i (pX2_walk_b75 hih13 hM) (Fr.i (pX2_walk_b75 hih13 hM) (pX2_walk_b75 hih13 hM)))))))))
theorem pX2_walk_l13_n {k0 : Nat} {k1 : Nat} : ∀ (n : Nat) (v0 : Int32) (v1 : Int32) (v2 : Int32) (v3 : Int32) (v4 : Int32) (v5 : Int32) (v6 : Int32) (v7 : Int32) (v8 : Mem), KS (SPl k0) M0 v8 → Fr (SPl k0) M0 (mX2_walk_l13 k0 k1 n v0 v1 v2 v3 v4 v5 v6 v7 v8) := by
  intro n
  induction n with
  | zero => intro v0 v1 v2 v3 v4 v5 v6 v7 v8 h; exact Fr.n
  | succ n IH => intro v0 v1 v2 v3 v4 v5 v6 v7 v8 h; exact pX2_walk_b13  IH h
theorem pX2_walk_l13 {k0 : Nat} {k1 : Nat} {v0 : Int32} {v1 : Int32} {v2 : Int32} {v3 : Int32} {v4 : Int32} {v5 : Int32} {v6 : Int32} {v7 : Int32} {v8 : Mem} {n : Nat} (h : KS (SPl k0) M0 v8) : Fr (SPl k0) M0 (mX2_walk_l13 k0 k1 n v0 v1 v2 v3 v4 v5 v6 v7 v8) := pX2_walk_l13_n   n v0 v1 v2 v3 v4 v5 v6 v7 v8 h
theorem pX2_walk {k0 : Nat} {k1 : Nat} {x2 : Int32} {x3 : Int32} {x4 : Int32} {x5 : Int32} {x6 : Int32} {x7 : Int32} {M : Mem} (hM : KS (SPl k0) M0 M) : Fr (SPl k0) M0 (mX2_walk k0 k1 x2 x3 x4 x5 x6 x7 M) := by
  unfold mX2_walk
  exact (pX2_walk_l13 hM)
end FFpls
section FFprl
variable {M0 : Mem}
theorem pX7_layLeg {x1 : Int32} {x2 : Int32} {M : Mem} (hM : KS SRl M0 M) : Fr SRl M0 (mX7_layLeg 135 x1 x2 M) := by
  unfold mX7_layLeg
  exact (Fr.k (Fr.bw (by unfold SRl; omega) hM (fun M3 hM3 => (Fr.k (Fr.bw (by unfold SRl; omega) hM3 (fun M6 hM6 => (Fr.c (fun r8 => (Fr.k (Fr.bw (by unfold SRl; omega) hM6 (fun M11 hM11 => (Fr.c (fun r14 => (Fr.k (Fr.bw (by unfold SRl; omega) hM11 (fun M17 hM17 => (Fr.k (Fr.bw (by unfold SRl; omega) hM17 (fun M21 hM21 => (Fr.k (Fr.bw (by unfold SRl; omega) hM21 (fun M24 hM24 => (Fr.ok hM24)))))))))))))))))))))))
theorem pX7_laySide_b136 {ih16 : Int32 → Int32 → Int32 → Int32 → Int32 → Int32 → Mem → Option (Mem × Unit)} {x2 : Int32} {x4 : Int32} {x5 : Int32} {x6 : Int32} {x7 : Int32} {x8 : Int32} {M : Mem} (hih16 : ∀ (v0 : Int32) (v1 : Int32) (v2 : Int32) (v3 : Int32) (v4 : Int32) (v5 : Int32) (v6 : Mem), KS SRl M0 v6 → Fr SRl M0 (ih16 v0 v1 v2 v3 v4 v5 v6)) (hM : KS SRl M0 M) : Fr SRl M0 (mX7_laySide_b136 135 ih16 x2 x4 x5 x6 x7 x8 M) := by
  unfold mX7_laySide_b136
  exact (Fr.b (fun x8_140 => (hih16 _ _ _ _ _ _ _ hM)))
theorem pX7_laySide_b131 {ih16 : Int32 → Int32 → Int32 → Int32 → Int32 → Int32 → Mem → Option (Mem × Unit)} {x2 : Int32} {x4 : Int32} {x5 : Int32} {x6 : Int32} {x8 : Int32} {y0 : Int32} {y1 : Int32} {M : Mem} (hih16 : ∀ (v0 : Int32) (v1 : Int32) (v2 : Int32) (v3 : Int32) (v4 : Int32) (v5 : Int32) (v6 : Mem), KS SRl M0 v6 → Fr SRl M0 (ih16 v0 v1 v2 v3 v4 v5 v6)) (hM : KS SRl M0 M) : Fr SRl M0 (mX7_laySide_b131 135 ih16 x2 x4 x5 x6 x8 y0 y1 M) := by
  unfold mX7_laySide_b131
  exact (Fr.b (fun x7_134 => (pX7_laySide_b136 hih16 hM)))
theorem pX7_laySide_b113 {ih16 : Int32 → Int32 → Int32 → Int32 → Int32 → Int32 → Mem → Option (Mem × Unit)} {x2 : Int32} {x4 : Int32} {x5 : Int32} {x6 : Int32} {x7 : Int32} {x8 : Int32} {y0 : Int32} {M : Mem} (hih16 : ∀ (v0 : Int32) (v1 : Int32) (v2 : Int32) (v3 : Int32) (v4 : Int32) (v5 : Int32) (v6 : Mem), KS SRl M0 v6 → Fr SRl M0 (ih16 v0 v1 v2 v3 v4 v5 v6)) (hM : KS SRl M0 M) : Fr SRl M0 (mX7_laySide_b113 135 ih16 x2 x4 x5 x6 x7 x8 y0 M) := by
  unfold mX7_laySide_b113
  exact (Fr.i (pX7_laySide_b131 hih16 hM) (pX7_laySide_b131 hih16 hM))
theorem pX7_laySide_b103 {ih16 : Int32 → Int32 → Int32 → Int32 → Int32 → Int32 → Mem → Option (Mem × Unit)} {x2 : Int32} {x4 : Int32} {x5 : Int32} {x6 : Int32} {x7 : Int32} {x8 : Int32} {y0 : Int32} {M : Mem} (hih16 : ∀ (v0 : Int32) (v1 : Int32) (v2 : Int32) (v3 : Int32) (v4 : Int32) (v5 : Int32) (v6 : Mem), KS SRl M0 v6 → Fr SRl M0 (ih16 v0 v1 v2 v3 v4 v5 v6)) (hM : KS SRl M0 M) : Fr SRl M0 (mX7_laySide_b103 135 ih16 x2 x4 x5 x6 x7 x8 y0 M) := by
  unfold mX7_laySide_b103
  exact (Fr.i (pX7_laySide_b113 hih16 hM) (pX7_laySide_b113 hih16 hM))
theorem pX7_laySide_b53 {ih16 : Int32 → Int32 → Int32 → Int32 → Int32 → Int32 → Mem → Option (Mem × Unit)} {x2 : Int32} {x4 : Int32} {x5 : Int32} {x6 : Int32} {x7 : Int32} {x8 : Int32} {y0 : Int32} {M : Mem} (hih16 : ∀ (v0 : Int32) (v1 : Int32) (v2 : Int32) (v3 : Int32) (v4 : Int32) (v5 : Int32) (v6 : Mem), KS SRl M0 v6 → Fr SRl M0 (ih16 v0 v1 v2 v3 v4 v5 v6)) (hM : KS SRl M0 M) : Fr SRl M0 (mX7_laySide_b53 135 ih16 x2 x4 x5 x6 x7 x8 y0 M) := by
  unfold mX7_laySide_b53
  exact (Fr.k (Fr.c (fun r14 => (Fr.i (pX7_laySide_b136 hih16 hM) (Fr.c (fun r19 => (Fr.i (pX7_laySide_b136 hih16 hM) (Fr.k (Fr.i (pX7_laySide_b103 hih16 hM) (pX7_laySide_b103 hih16 hM))))))))))
theorem pX7_laySide_b16 {ih16 : Int32 → Int32 → Int32 → Int32 → Int32 → Int32 → Mem → Option (Mem × Unit)} {x2 : Int32} {x4 : Int32} {x5 : Int32} {x6 : Int32} {x7 : Int32} {x8 : Int32} {M : Mem} (hih16 : ∀ (v0 : Int32) (v1 : Int32) (v2 : Int32) (v3 : Int32) (v4 : Int32) (v5 : Int32) (v6 : Mem), KS SRl M0 v6 → Fr SRl M0 (ih16 v0 v1 v2 v3 v4 v5 v6)) (hM : KS SRl M0 M) : Fr SRl M0 (mX7_laySide_b16 135 ih16 x2 x4 x5 x6 x7 x8 M) := by
  unfold mX7_laySide_b16
  exact (Fr.i (Fr.ok hM) (Fr.k (Fr.i (Fr.ok hM) (Fr.m (pX7_layLeg hM) (fun M10 _ hM10 => (Fr.i (pX7_laySide_b53 hih16 hM10) (pX7_laySide_b53 hih16 hM10)))))))
theorem pX7_laySide_l16_n  : ∀ (n : Nat) (v0 : Int32) (v1 : Int32) (v2 : Int32) (v3 : Int32) (v4 : Int32) (v5 : Int32) (v6 : Mem), KS SRl M0 v6 → Fr SRl M0 (mX7_laySide_l16 135 n v0 v1 v2 v3 v4 v5 v6) := by
  intro n
  induction n with
  | zero => intro v0 v1 v2 v3 v4 v5 v6 h; exact Fr.n
  | succ n IH => intro v0 v1 v2 v3 v4 v5 v6 h; exact pX7_laySide_b16  IH h
theorem pX7_laySide_l16  {v0 : Int32} {v1 : Int32} {v2 : Int32} {v3 : Int32} {v4 : Int32} {v5 : Int32} {v6 : Mem} {n : Nat} (h : KS SRl M0 v6) : Fr SRl M0 (mX7_laySide_l16 135 n v0 v1 v2 v3 v4 v5 v6) := pX7_laySide_l16_n   n v0 v1 v2 v3 v4 v5 v6 h
theorem pX7_laySide {x1 : Int32} {x2 : Int32} {x3 : Int32} {x4 : Int32} {x5 : Int32} {x6 : Int32} {M : Mem} (hM : KS SRl M0 M) : Fr SRl M0 (mX7_laySide 135 x1 x2 x3 x4 x5 x6 M) := by
  unfold mX7_laySide
  exact (Fr.bw (by unfold SRl; omega) hM (fun M1 hM1 => (Fr.bw (by unfold SRl; omega) hM1 (fun M3 hM3 => (pX7_laySide_l16 hM3)))))
end FFprl
end
/-! part 60v.sheet -/
section
/-! a step's sheet: laid alike -/
theorem f_shr1 : ∀ c, c < 17 → (Int32.ofNat c >>> ((1 : Int32) &&& 31)) = Int32.ofNat (c / 2) := by decide +kernel
theorem f_and1 : ∀ c, c < 17 → (Int32.ofNat c &&& (1 : Int32)) = Int32.ofNat (c % 2) := by decide +kernel
section SHT
variable {M N M0 N0 : Mem} {k k1 : Nat}
def SPs (k : Nat) (c j : Nat) : Prop := (k + 1 ≤ c ∧ c ≤ k + 6) ∨ (c = k ∧ 6 ≤ j ∧ j ≤ 8)
/-- a sheet laid by both: bend b, side s -/
def SH (k b s : Nat) (M N : Mem) : Prop := (∀ j : Nat, (j : Int) < (rd N 136 1).toInt → LG k M N j) ∧ rd M k 6 = rd N 136 1 ∧ (rd M k 7).toInt = (if s = 0 then 0 else (b : Int) + 1) ∧ (rd M k 8).toInt = (if s = 0 then (b : Int) else (rd N 136 1).toInt - 1)
def ShR (k b s : Nat) (M N : Mem) (p q : Mem × Unit) : Prop := SH k b s p.1 q.1 ∧ KS (SPs k) M p.1 ∧ KS SRl N q.1
theorem pc_goesUp {b : Nat} (h0 : 0 ≤ (rd M k1 2).toInt ∧ (rd M k1 2).toInt ≤ 255) (hb : b < 9) : Pc (mX1_goesUp k1 (Int32.ofNat b) M) (fun r => r = if (rd M k1 2).toInt.toNat.testBit b then 1 else 0) := by
  unfold mX1_goesUp
  have e : rd M k1 2 = Int32.ofNat (rd M k1 2).toInt.toNat := o_of h0.1
  have hf := f_has0 (rd M k1 2).toInt.toNat (by omega) b hb
  rw [← e] at hf
  refine Pc.i (fun c => Pc.ok ?_) (fun c => Pc.ok ?_)
  · rw [hf.mp c]; rfl
  · cases q : (rd M k1 2).toInt.toNat.testBit b with
    | true => rfl
    | false => exact absurd (hf.mpr q) c
theorem WI.pl {up : Nat → Bool} {n : Nat} {x5 : Int32} {M M' N : Mem} (hd8 : k1 + 8 ≤ k) (hn : (rd N 136 0).toInt = (n : Int)) (l1 : (rd N 136 1).toInt = (n : Int) + 1) (n8 : n ≤ 8) (hleg : ∀ j : Nat, (j : Int) < (rd N 136 1).toInt → rd M (k1 + 1) j = rd N 136 (2 + j)) (hr : ∀ b', b' < n → (up b' = true ↔ ((rd N 136 (11 + b') = 1 ∧ ¬ x5 = 1) ∨ (¬ rd N 136 (11 + b') = 1 ∧ ¬ x5 = 0)))) (kM : KS (SPs k) M M') (e : rd M' k 6 = rd N 136 1) : WI k k1 up n x5 M' N := by
  refine ⟨e, by omega, fun j hj => ?_, hn, hr⟩
  rw [kM (k1 + 1) j (by unfold SPs; omega)]
  exact hleg j hj
theorem LG.of {M1 M2 N1 N2 : Mem} {j : Nat} (h1 : ∀ c, rd M2 c j = rd M1 c j) (h2 : ∀ c, 141 ≤ c ∧ c ≤ 144 → rd N2 c j = rd N1 c j) (h : LG k M1 N1 j) : LG k M2 N2 j := by
  unfold LG at h ⊢
  rw [h1, h1, h1, h1, h1, h1, h2 141 (by omega), h2 142 (by omega), h2 143 (by omega), h2 144 (by omega)]
  exact h
section SD
variable {b a n : Nat} {x5 x7 : Int32} {up : Nat → Bool}
theorem sh_0 (hd8 : k1 + 8 ≤ k) (hlc : rd M k1 0 = rd N 136 1) (hn : (rd N 136 0).toInt = (n : Int)) (l1 : (rd N 136 1).toInt = (n : Int) + 1) (n8 : n ≤ 8) (hleg : ∀ j : Nat, (j : Int) < (rd N 136 1).toInt → rd M (k1 + 1) j = rd N 136 (2 + j)) (hb : b < n) (ha : a < 2 ^ n) (hc : ∀ b', b' < n → ((((x7 >>> (Int32.ofNat b' &&& 31)) &&& (1 : Int32)) = 0) ↔ up b' = false)) (hr : ∀ b', b' < n → (up b' = true ↔ ((rd N 136 (11 + b') = 1 ∧ ¬ x5 = 1) ∨ (¬ rd N 136 (11 + b') = 1 ∧ ¬ x5 = 0)))) : R2 (mX2_layStep_b27 k k1 (Int32.ofNat a) (Int32.ofNat (2 * b + 0)) (Int32.ofNat b) x7 M) (mX7_laySheet_b17 135 (Int32.ofNat b) 0 (Int32.ofNat a) x5 N) (ShR k b 0 M N) := by
  have tb : (Int32.ofNat b).toInt = (b : Int) := t_of (by omega)
  have tb1 := i_inc (i := Int32.ofNat b) (by omega) (by omega)
  unfold mX2_layStep_b27 mX7_laySheet_b17 mX7_laySheet_b31 mX7_laySheet_b40 mX7_laySheet_b60 mX7_laySheet_b69
  rw [f_and1 (2 * b + 0) (by omega), show (2 * b + 0) % 2 = 0 by omega]
  refine R2.bl (fun M6 e6 => R2.il (fun _ => R2.ir (fun _ => R2.ir (fun _ => R2.bl (fun M19 e19 => R2.bl (fun M21 e21 => ?_))) (fun z => absurd rfl z)) (fun z => absurd rfl z)) (fun z => absurd rfl z))
  have k21 : KS (SPs k) M M21 := by rw [e21, e19, e6]; exact ((KS.rf.wr (Or.inr ⟨rfl, by omega, by omega⟩)).wr (Or.inr ⟨rfl, by omega, by omega⟩)).wr (Or.inr ⟨rfl, by omega, by omega⟩)
  have s21 : rd M21 k 6 = rd N 136 1 := by rw [e21, rd_wj (by decide), e19, rd_wj (by decide), e6, rd_we]; exact hlc
  have hW := WI.pl hd8 hn l1 n8 hleg hr k21 s21
  refine R2.mm (side_R (Or.inl hd8) (Or.inr rfl) ha n8 (t := 1) (d := 3) (by decide) (by decide) hc hW (by decide) (by omega) (fun _ => by omega) (fun z => absurd z (by decide)) rfl rfl rfl) (fun M25 _ N7 _ r1 => ?_)
  have r1 : WR k (-1) (Int32.ofNat b).toInt M21 N M25 N7 := r1
  have hW2 := hW.ks (Or.inl hd8) r1.1 r1.2.1
  have l7 : rd N7 136 1 = rd N 136 1 := r1.2.1 136 1 (by unfold SRl; omega)
  refine R2.ir (fun _ => R2.ir (fun _ => ?_) (fun z => absurd rfl z)) (fun z => absurd rfl z)
  refine R2.mm (side_R (Or.inl hd8) (Or.inl rfl) ha n8 (t := 3) (d := 0) (by decide) (by decide) hc hW2 (by decide) (by omega) (fun z => absurd z (by decide)) (fun _ => by omega) rfl rfl rfl) (fun M28 _ N12 _ r2 => R2.ok ?_)
  have r2 : WR k 1 (Int32.ofNat b + 1).toInt M25 N7 M28 N12 := r2
  have l12 : rd N12 136 1 = rd N 136 1 := (r2.2.1 136 1 (by unfold SRl; omega)).trans l7
  have c6 : ∀ j, rd M28 k j = rd M21 k j := fun j => by rw [r2.1 k j (by unfold SPl; omega), r1.1 k j (by unfold SPl; omega)]
  refine ⟨⟨fun j hj => ?_, ?_, ?_, ?_⟩, k21.trans ((r1.1.trans r2.1).mono (fun c j z => Or.inl z)), r1.2.1.trans r2.2.1⟩
  · have hj : (j : Int) < (rd N12 136 1).toInt := hj
    rw [l12] at hj
    refine r2.2.2.1 j (by rw [l7]; exact hj) ?_
    by_cases q : j ≤ b
    · left
      refine r1.2.2.1 j hj (Or.inr ?_)
      unfold vis
      rw [if_neg (by decide), tb]; omega
    · right
      unfold vis
      rw [if_pos rfl, tb1, tb]; omega
  · show rd M28 k 6 = rd N12 136 1
    rw [c6, s21, l12]
  · show (rd M28 k 7).toInt = _
    rw [c6, e21, rd_wj (by decide), e19, rd_we, if_pos rfl]; rfl
  · show (rd M28 k 8).toInt = _
    rw [c6, e21, rd_we, if_pos rfl]; exact tb
theorem sh_1 (hd8 : k1 + 8 ≤ k) (hlc : rd M k1 0 = rd N 136 1) (hn : (rd N 136 0).toInt = (n : Int)) (l1 : (rd N 136 1).toInt = (n : Int) + 1) (n8 : n ≤ 8) (hleg : ∀ j : Nat, (j : Int) < (rd N 136 1).toInt → rd M (k1 + 1) j = rd N 136 (2 + j)) (hb : b < n) (ha : a < 2 ^ n) (hc : ∀ b', b' < n → ((((x7 >>> (Int32.ofNat b' &&& 31)) &&& (1 : Int32)) = 0) ↔ up b' = false)) (hr : ∀ b', b' < n → (up b' = true ↔ ((rd N 136 (11 + b') = 1 ∧ ¬ x5 = 1) ∨ (¬ rd N 136 (11 + b') = 1 ∧ ¬ x5 = 0)))) : R2 (mX2_layStep_b27 k k1 (Int32.ofNat a) (Int32.ofNat (2 * b + 1)) (Int32.ofNat b) x7 M) (mX7_laySheet_b17 135 (Int32.ofNat b) 1 (Int32.ofNat a) x5 N) (ShR k b 1 M N) := by
  have tb : (Int32.ofNat b).toInt = (b : Int) := t_of (by omega)
  have tb1 := i_inc (i := Int32.ofNat b) (by omega) (by omega)
  unfold mX2_layStep_b27 mX7_laySheet_b17 mX7_laySheet_b31 mX7_laySheet_b40 mX7_laySheet_b60 mX7_laySheet_b69
  rw [f_and1 (2 * b + 1) (by omega), show (2 * b + 1) % 2 = 1 by omega]
  refine R2.bl (fun M6 e6 => R2.il (fun z => absurd z (by decide)) (fun _ => R2.ir (fun z => absurd z (by decide)) (fun _ => R2.ir (fun z => absurd z (by decide)) (fun _ => R2.bl (fun M9 e9 => R2.bl (fun M11 e11 => ?_))))))
  have k11 : KS (SPs k) M M11 := by rw [e11, e9, e6]; exact ((KS.rf.wr (Or.inr ⟨rfl, by omega, by omega⟩)).wr (Or.inr ⟨rfl, by omega, by omega⟩)).wr (Or.inr ⟨rfl, by omega, by omega⟩)
  have s9 : rd M9 k 6 = rd N 136 1 := by rw [e9, rd_wj (by decide), e6, rd_we]; exact hlc
  have s11 : rd M11 k 6 = rd N 136 1 := by rw [e11, rd_wj (by decide)]; exact s9
  have hW := WI.pl hd8 hn l1 n8 hleg hr k11 s11
  intro p q hp hq
  obtain ⟨M15, u1, p1, p2⟩ := cal_s hp
  obtain ⟨M18, u2, p3, p4⟩ := cal_s p2
  cases p4
  obtain ⟨N7, v1, q1, q2⟩ := cal_s hq
  have q2 := ite_f (by decide) q2
  have q2 := ite_f (by decide) q2
  obtain ⟨N12, v2, q3, q4⟩ := cal_s q2
  cases q4
  have kM1 : KS (SPl k) M11 M15 := pX2_walk KS.rf _ p1
  have kN1 : KS SRl N N7 := pX7_laySide KS.rf _ q1
  have l7 : rd N7 136 1 = rd N 136 1 := kN1 136 1 (by unfold SRl; omega)
  -- the legs behind the bend
  have r1 := side_R (Or.inl hd8) (Or.inl rfl) ha n8 (t := 1) (d := 3) (by decide) (by decide) hc (hW.ks (Or.inl hd8) KS.rf kN1) (by decide) (by omega) (fun z => absurd z (by decide)) (fun _ => by omega) rfl rfl rfl _ _ p1 q3
  have r1 : WR k 1 (Int32.ofNat b + 1).toInt M11 N7 M15 N12 := r1
  -- the legs up to it
  have r2 := side_R (Or.inl hd8) (Or.inr rfl) ha n8 (t := 3) (d := 0) (by decide) (by decide) hc (hW.ks (Or.inl hd8) kM1 KS.rf) (by decide) (by omega) (fun _ => by omega) (fun z => absurd z (by decide)) rfl rfl rfl _ _ p3 q1
  have r2 : WR k (-1) (Int32.ofNat b).toInt M15 N M18 N7 := r2
  have l12 : rd N12 136 1 = rd N 136 1 := (r1.2.1 136 1 (by unfold SRl; omega)).trans l7
  have c6 : ∀ j, rd M18 k j = rd M11 k j := fun j => by rw [r2.1 k j (by unfold SPl; omega), r1.1 k j (by unfold SPl; omega)]
  refine ⟨⟨fun j hj => ?_, ?_, ?_, ?_⟩, k11.trans ((r1.1.trans r2.1).mono (fun c j z => Or.inl z)), r2.2.1.trans r1.2.1⟩
  · have hj : (j : Int) < (rd N12 136 1).toInt := hj
    rw [l12] at hj
    by_cases q : j ≤ b
    · refine LG.of (M1 := M18) (N1 := N7) (fun _ => rfl) (fun c hc => r1.2.2.2.2 c j hc ?_) (r2.2.2.1 j hj (Or.inr ?_))
      · unfold vis
        rw [if_pos rfl, tb1, tb]; omega
      · unfold vis
        rw [if_neg (by decide), tb]; omega
    · refine LG.of (M1 := M15) (N1 := N12) (fun c => r2.2.2.2.1 c j ?_) (fun _ _ => rfl) (r1.2.2.1 j (by rw [l7]; exact hj) (Or.inr ?_))
      · unfold vis
        rw [if_neg (by decide), tb]; omega
      · unfold vis
        rw [if_pos rfl, tb1, tb]; omega
  · show rd M18 k 6 = rd N12 136 1
    rw [c6, s11, l12]
  · show (rd M18 k 7).toInt = _
    rw [c6, e11, rd_wj (by decide), e9, rd_we, if_neg (by decide), tb1, tb]
  · show (rd M18 k 8).toInt = (if 1 = 0 then _ else (rd N12 136 1).toInt - 1)
    rw [c6, e11, rd_we, s9, if_neg (by decide), l12, i_sub (by rw [show ((1 : Int32)).toInt = 1 from rfl]; omega) (by rw [show ((1 : Int32)).toInt = 1 from rfl]; omega)]; rfl
end SD
theorem sheet_G {b s a n : Nat} (hd8 : k1 + 8 ≤ k) (hP : PG k1 M (row 136 N)) (hn : (rd N 136 0).toInt = (n : Int)) (hb : b < n) (hs : s < 2) (ha : a < 2 ^ n) :
    R2 (mX2_layStep k k1 (Int32.ofNat a) (Int32.ofNat (2 * b + s)) M) (mX7_laySheet 135 (Int32.ofNat b) (Int32.ofNat s) (Int32.ofNat a) N) (ShR k b s M N) := by
  have n8 : n ≤ 8 := by have := hP.n8; have e : (row 136 N 0).toInt = (n : Int) := hn; omega
  have l1 : (rd N 136 1).toInt = (n : Int) + 1 := by
    have e : (row 136 N 0).toInt = (n : Int) := hn
    have h1 := hP.nn
    have h2 := hP.lb
    have e1 : (row 136 N 1).toInt = (rd N 136 1).toInt := rfl
    rw [e, e1] at h1
    rw [e1] at h2
    split at h1 <;> omega
  have hub := hP.ub
  have hup : ∀ b' : Nat, b' < n → (rd N 136 (11 + b') = if (rd M k1 2).toInt.toNat.testBit b' then 1 else 0) := fun b' hb' => hP.up b' (by show (b' : Int) < (rd N 136 0).toInt; omega)
  unfold mX2_layStep mX7_laySheet
  rw [f_shr1 (2 * b + s) (by omega), show (2 * b + s) / 2 = b by omega]
  rw [bnd_e]
  refine R2.cl (pc_goesUp (b := b) hub (by omega)) (fun r3 p3 => R2.kr (fun _ => ?_))
  rw [p3]
  have tb : (Int32.ofNat b).toInt = (b : Int) := t_of (by omega)
  have ei : ((11 : Int32) + Int32.ofNat b).toNatClampNeg = 11 + b := by
    rw [i_clamp, i_add (by rw [tb, show ((11 : Int32)).toInt = 11 from rfl]; omega) (by rw [tb, show ((11 : Int32)).toInt = 11 from rfl]; omega), tb, show ((11 : Int32)).toInt = 11 from rfl]; omega
  rw [ei]
  show R2 _ (ite2 (rd N 136 (11 + b) = 0) _ _) _
  rw [hup b hb]
  have eu : rd M k1 2 = Int32.ofNat (rd M k1 2).toInt.toNat := o_of hub.1
  have hu256 : (rd M k1 2).toInt.toNat < 256 := by omega
  generalize (rd M k1 2).toInt.toNat = u at *
  have hs2 : s = 0 ∨ s = 1 := by omega
  by_cases q : u.testBit b = true
  · rw [if_pos q]
    have hc : ∀ b', b' < n → ((((rd M k1 2 >>> (Int32.ofNat b' &&& 31)) &&& (1 : Int32)) = 0) ↔ u.testBit b' = false) := fun b' hb' => by rw [eu]; exact f_has0 u hu256 b' (by omega)
    have hr : ∀ b', b' < n → (u.testBit b' = true ↔ ((rd N 136 (11 + b') = 1 ∧ ¬ (0 : Int32) = 1) ∨ (¬ rd N 136 (11 + b') = 1 ∧ ¬ (0 : Int32) = 0))) := fun b' hb' => by
      rw [hup b' hb']
      cases u.testBit b' <;> simp
    refine R2.il (fun z => absurd z (by decide)) (fun _ => R2.ir (fun z => absurd z (by decide)) (fun _ => ?_))
    rcases hs2 with rfl | rfl
    · exact sh_0 hd8 hP.lc hn l1 n8 hP.leg hb ha hc hr
    · exact sh_1 hd8 hP.lc hn l1 n8 hP.leg hb ha hc hr
  · rw [if_neg q]
    have hc : ∀ b', b' < n → (((((rd M k1 2 ^^^ (-1 : Int32)) >>> (Int32.ofNat b' &&& 31)) &&& (1 : Int32)) = 0) ↔ (!u.testBit b') = false) := fun b' hb' => by
      rw [eu, f_hasx u hu256 b' (by omega)]
      cases u.testBit b' <;> simp
    have hr : ∀ b', b' < n → ((!u.testBit b') = true ↔ ((rd N 136 (11 + b') = 1 ∧ ¬ (1 : Int32) = 1) ∨ (¬ rd N 136 (11 + b') = 1 ∧ ¬ (1 : Int32) = 0))) := fun b' hb' => by
      rw [hup b' hb']
      cases u.testBit b' <;> simp
    refine R2.il (fun _ => R2.ir (fun _ => ?_) (fun z => absurd rfl z)) (fun z => absurd rfl z)
    rcases hs2 with rfl | rfl
    · exact sh_0 hd8 hP.lc hn l1 n8 hP.leg hb ha hc hr
    · exact sh_1 hd8 hP.lc hn l1 n8 hP.leg hb ha hc hr
theorem sheet_B {b s a n : Nat} (hd8 : k1 + 8 ≤ k) (hP : PB k1 M (row 136 N)) (hn : (rd N 136 0).toInt = (n : Int)) (hb : b < n) (hs : s < 2) (ha : a < 2 ^ n) :
    R2 (mX2_layStep k k1 (Int32.ofNat a) (Int32.ofNat (2 * b + s)) M) (mX7_laySheet 135 (Int32.ofNat b) (Int32.ofNat s) (Int32.ofNat a) N) (ShR k b s M N) := sheet_G hd8 hP.pg hn hb hs ha
end SHT
end
/-! part 60v2.frs -/
section
/-! what the places keep (printed) -/
section FFpsh
variable {M0 : Mem}
theorem uX2_walk_b272 {k0 : Nat} {k1 : Nat} {ih13 : Int32 → Int32 → Int32 → Int32 → Int32 → Int32 → Int32 → Int32 → Mem → Option (Mem × Unit)} {x3 : Int32} {x5 : Int32} {x6 : Int32} {x7 : Int32} {x8 : Int32} {x9 : Int32} {x10 : Int32} {x11 : Int32} {M : Mem} (hih13 : ∀ (v0 : Int32) (v1 : Int32) (v2 : Int32) (v3 : Int32) (v4 : Int32) (v5 : Int32) (v6 : Int32) (v7 : Int32) (v8 : Mem), KS (SPs k0) M0 v8 → Fr (SPs k0) M0 (ih13 v0 v1 v2 v3 v4 v5 v6 v7 v8)) (hM : KS (SPs k0) M0 M) : Fr (SPs k0) M0 (mX2_walk_b272 k0 k1 ih13 x3 x5 x6 x7 x8 x9 x10 x11 M) := by
  unfold mX2_walk_b272
  exact (Fr.b (fun x11_276 => (hih13 _ _ _ _ _ _ _ _ _ hM)))
theorem uX2_walk_b267 {k0 : Nat} {k1 : Nat} {ih13 : Int32 → Int32 → Int32 → Int32 → Int32 → Int32 → Int32 → Int32 → Mem → Option (Mem × Unit)} {x3 : Int32} {x5 : Int32} {x6 : Int32} {x7 : Int32} {x8 : Int32} {x9 : Int32} {x11 : Int32} {y0 : Int32} {y1 : Int32} {M : Mem} (hih13 : ∀ (v0 : Int32) (v1 : Int32) (v2 : Int32) (v3 : Int32) (v4 : Int32) (v5 : Int32) (v6 : Int32) (v7 : Int32) (v8 : Mem), KS (SPs k0) M0 v8 → Fr (SPs k0) M0 (ih13 v0 v1 v2 v3 v4 v5 v6 v7 v8)) (hM : KS (SPs k0) M0 M) : Fr (SPs k0) M0 (mX2_walk_b267 k0 k1 ih13 x3 x5 x6 x7 x8 x9 x11 y0 y1 M) := by
  unfold mX2_walk_b267
  exact (Fr.b (fun x10_270 => (uX2_walk_b272 hih13 hM)))
theorem uX2_walk_b249 {k0 : Nat} {k1 : Nat} {ih13 : Int32 → Int32 → Int32 → Int32 → Int32 → Int32 → Int32 → Int32 → Mem → Option (Mem × Unit)} {x3 : Int32} {x5 : Int32} {x6 : Int32} {x7 : Int32} {x8 : Int32} {x9 : Int32} {x10 : Int32} {x11 : Int32} {y0 : Int32} {M : Mem} (hih13 : ∀ (v0 : Int32) (v1 : Int32) (v2 : Int32) (v3 : Int32) (v4 : Int32) (v5 : Int32) (v6 : Int32) (v7 : Int32) (v8 : Mem), KS (SPs k0) M0 v8 → Fr (SPs k0) M0 (ih13 v0 v1 v2 v3 v4 v5 v6 v7 v8)) (hM : KS (SPs k0) M0 M) : Fr (SPs k0) M0 (mX2_walk_b249 k0 k1 ih13 x3 x5 x6 x7 x8 x9 x10 x11 y0 M) := by
  unfold mX2_walk_b249
  exact (Fr.i (uX2_walk_b267 hih13 hM) (uX2_walk_b267 hih13 hM))
theorem uX2_walk_b217 {k0 : Nat} {k1 : Nat} {ih13 : Int32 → Int32 → Int32 → Int32 → Int32 → Int32 → Int32 → Int32 → Mem → Option (Mem × Unit)} {x3 : Int32} {x5 : Int32} {x6 : Int32} {x7 : Int32} {x8 : Int32} {x9 : Int32} {x10 : Int32} {x11 : Int32} {y0 : Int32} {M : Mem} (hih13 : ∀ (v0 : Int32) (v1 : Int32) (v2 : Int32) (v3 : Int32) (v4 : Int32) (v5 : Int32) (v6 : Int32) (v7 : Int32) (v8 : Mem), KS (SPs k0) M0 v8 → Fr (SPs k0) M0 (ih13 v0 v1 v2 v3 v4 v5 v6 v7 v8)) (hM : KS (SPs k0) M0 M) : Fr (SPs k0) M0 (mX2_walk_b217 k0 k1 ih13 x3 x5 x6 x7 x8 x9 x10 x11 y0 M) := by
  unfold mX2_walk_b217
  exact (Fr.i (uX2_walk_b272 hih13 hM) (Fr.i (uX2_walk_b272 hih13 hM) (Fr.i (uX2_walk_b249 hih13 hM) (uX2_walk_b249 hih13 hM))))
theorem uX2_walk_b108 {k0 : Nat} {k1 : Nat} {ih13 : Int32 → Int32 → Int32 → Int32 → Int32 → Int32 → Int32 → Int32 → Mem → Option (Mem × Unit)} {x3 : Int32} {x5 : Int32} {x6 : Int32} {x7 : Int32} {x8 : Int32} {x9 : Int32} {x10 : Int32} {x11 : Int32} {y1 : Int32} {y2 : Int32} {y3 : Int32} {M : Mem} (hih13 : ∀ (v0 : Int32) (v1 : Int32) (v2 : Int32) (v3 : Int32) (v4 : Int32) (v5 : Int32) (v6 : Int32) (v7 : Int32) (v8 : Mem), KS (SPs k0) M0 v8 → Fr (SPs k0) M0 (ih13 v0 v1 v2 v3 v4 v5 v6 v7 v8)) (hM : KS (SPs k0) M0 M) : Fr (SPs k0) M0 (mX2_walk_b108 k0 k1 ih13 x3 x5 x6 x7 x8 x9 x10 x11 y1 y2 y3 M) := by
  unfold mX2_walk_b108
  exact (Fr.k (Fr.bw (Or.inl ⟨by omega, by omega⟩) hM (fun M15 hM15 => (Fr.k (Fr.k (Fr.bw (Or.inl ⟨by omega, by omega⟩) hM15 (fun M19 hM19 => (Fr.k (Fr.k (Fr.bw (Or.inl ⟨by omega, by omega⟩) hM19 (fun M23 hM23 => (Fr.k (Fr.k (Fr.bw (Or.inl ⟨by omega, by omega⟩) hM23 (fun M27 hM27 => (Fr.k (Fr.k (Fr.bw (Or.inl ⟨by omega, by omega⟩) hM27 (fun M31 hM31 => (Fr.k (Fr.b (fun x8_193 => (Fr.k (Fr.b (fun x9_202 => (Fr.i (uX2_walk_b217 hih13 hM31) (uX2_walk_b217 hih13 hM31)))))))))))))))))))))))))))
theorem uX2_walk_b75 {k0 : Nat} {k1 : Nat} {ih13 : Int32 → Int32 → Int32 → Int32 → Int32 → Int32 → Int32 → Int32 → Mem → Option (Mem × Unit)} {x3 : Int32} {x5 : Int32} {x6 : Int32} {x7 : Int32} {x8 : Int32} {x9 : Int32} {x10 : Int32} {x11 : Int32} {x12 : Int32} {y1 : Int32} {y2 : Int32} {y3 : Int32} {M : Mem} (hih13 : ∀ (v0 : Int32) (v1 : Int32) (v2 : Int32) (v3 : Int32) (v4 : Int32) (v5 : Int32) (v6 : Int32) (v7 : Int32) (v8 : Mem), KS (SPs k0) M0 v8 → Fr (SPs k0) M0 (ih13 v0 v1 v2 v3 v4 v5 v6 v7 v8)) (hM : KS (SPs k0) M0 M) : Fr (SPs k0) M0 (mX2_walk_b75 k0 k1 ih13 x3 x5 x6 x7 x8 x9 x10 x11 x12 y1 y2 y3 M) := by
  unfold mX2_walk_b75
  exact (Fr.k (Fr.bw (Or.inl ⟨by omega, by omega⟩) hM (fun M10 hM10 => (Fr.i (uX2_walk_b108 hih13 hM10) (Fr.i (uX2_walk_b108 hih13 hM10) (uX2_walk_b108 hih13 hM10))))))
theorem uX2_walk_b13 {k0 : Nat} {k1 : Nat} {ih13 : Int32 → Int32 → Int32 → Int32 → Int32 → Int32 → Int32 → Int32 → Mem → Option (Mem × Unit)} {x3 : Int32} {x5 : Int32} {x6 : Int32} {x7 : Int32} {x8 : Int32} {x9 : Int32} {x10 : Int32} {x11 : Int32} {M : Mem} (hih13 : ∀ (v0 : Int32) (v1 : Int32) (v2 : Int32) (v3 : Int32) (v4 : Int32) (v5 : Int32) (v6 : Int32) (v7 : Int32) (v8 : Mem), KS (SPs k0) M0 v8 → Fr (SPs k0) M0 (ih13 v0 v1 v2 v3 v4 v5 v6 v7 v8)) (hM : KS (SPs k0) M0 M) : Fr (SPs k0) M0 (mX2_walk_b13 k0 k1 ih13 x3 x5 x6 x7 x8 x9 x10 x11 M) := by
  unfold mX2_walk_b13
  exact (Fr.i (Fr.ok hM) (Fr.i (Fr.ok hM) (Fr.i (Fr.ok hM) (Fr.k (Fr.b (fun x12_41 => (Fr.i (uX2_walk_b75 hih13 hM) (Fr.i (uX2_walk_b75 hih13 hM) (uX2_walk_b75 hih13 hM)))))))))
theorem uX2_walk_l13_n {k0 : Nat} {k1 : Nat} : ∀ (n : Nat) (v0 : Int32) (v1 : Int32) (v2 : Int32) (v3 : Int32) (v4 : Int32) (v5 : Int32) (v6 : Int32) (v7 : Int32) (v8 : Mem), KS (SPs k0) M0 v8 → Fr (SPs k0) M0 (mX2_walk_l13 k0 k1 n v0 v1 v2 v3 v4 v5 v6 v7 v8) := by
  intro n
  induction n with
  | zero => intro v0 v1 v2 v3 v4 v5 v6 v7 v8 h; exact Fr.n
  | succ n IH => intro v0 v1 v2 v3 v4 v5 v6 v7 v8 h; exact uX2_walk_b13  IH h
theorem uX2_walk_l13 {k0 : Nat} {k1 : Nat} {v0 : Int32} {v1 : Int32} {v2 : Int32} {v3 : Int32} {v4 : Int32} {v5 : Int32} {v6 : Int32} {v7 : Int32} {v8 : Mem} {n : Nat} (h : KS (SPs k0) M0 v8) : Fr (SPs k0) M0 (mX2_walk_l13 k0 k1 n v0 v1 v2 v3 v4 v5 v6 v7 v8) := uX2_walk_l13_n   n v0 v1 v2 v3 v4 v5 v6 v7 v8 h
theorem uX2_walk {k0 : Nat} {k1 : Nat} {x2 : Int32} {x3 : Int32} {x4 : Int32} {x5 : Int32} {x6 : Int32} {x7 : Int32} {M : Mem} (hM : KS (SPs k0) M0 M) : Fr (SPs k0) M0 (mX2_walk k0 k1 x2 x3 x4 x5 x6 x7 M) := by
  unfold mX2_walk
  exact (uX2_walk_l13 hM)
theorem uX2_layStep_b27 {k0 : Nat} {k1 : Nat} {x2 : Int32} {x3 : Int32} {x4 : Int32} {y0 : Int32} {M : Mem} (hM : KS (SPs k0) M0 M) : Fr (SPs k0) M0 (mX2_layStep_b27 k0 k1 x2 x3 x4 y0 M) := by
  unfold mX2_layStep_b27
  exact (Fr.bw (Or.inr ⟨rfl, by omega, by omega⟩) hM (fun M6 hM6 => (Fr.i (Fr.bw (Or.inr ⟨rfl, by omega, by omega⟩) hM6 (fun M19 hM19 => (Fr.bw (Or.inr ⟨rfl, by omega, by omega⟩) hM19 (fun M21 hM21 => (Fr.m (uX2_walk hM21) (fun M25 _ hM25 => (Fr.m (uX2_walk hM25) (fun M28 _ hM28 => (Fr.ok hM28))))))))) (Fr.bw (Or.inr ⟨rfl, by omega, by omega⟩) hM6 (fun M9 hM9 => (Fr.bw (Or.inr ⟨rfl, by omega, by omega⟩) hM9 (fun M11 hM11 => (Fr.m (uX2_walk hM11) (fun M15 _ hM15 => (Fr.m (uX2_walk hM15) (fun M18 _ hM18 => (Fr.ok hM18))))))))))))
theorem uX2_layStep {k0 : Nat} {k1 : Nat} {x2 : Int32} {x3 : Int32} {M : Mem} (hM : KS (SPs k0) M0 M) : Fr (SPs k0) M0 (mX2_layStep k0 k1 x2 x3 M) := by
  unfold mX2_layStep
  exact (Fr.b (fun x4_3 => (Fr.c (fun r3 => (Fr.i (uX2_layStep_b27 hM) (uX2_layStep_b27 hM))))))
theorem uX2_reasonFor_b20 {k0 : Nat} {k1 : Nat} {x2 : Int32} {x3 : Int32} {x4 : Int32} {y0 : Int32} {M : Mem} (hM : KS (SPs k0) M0 M) : Fr (SPs k0) M0 (mX2_reasonFor_b20 k0 k1 x2 x3 x4 y0 M) := by
  unfold mX2_reasonFor_b20
  exact (Fr.i (Fr.i (Fr.ok hM) (Fr.i (Fr.ok hM) (Fr.k (Fr.k (Fr.i (Fr.m (uX2_layStep hM) (fun M11 _ hM11 => (Fr.c (fun r13 => (Fr.k (Fr.i (Fr.ok hM11) (Fr.k (Fr.i (Fr.c (fun r20 => (Fr.b (fun x8_123 => (Fr.i (Fr.i (Fr.c (fun r26 => (Fr.i (Fr.ok hM11) (Fr.ok hM11)))) (Fr.ok hM11)) (Fr.ok hM11)))))) (Fr.ok hM11))))))))) (Fr.ok hM)))))) (Fr.ok hM))
theorem uX2_reasonFor {k0 : Nat} {k1 : Nat} {x2 : Int32} {x3 : Int32} {M : Mem} (hM : KS (SPs k0) M0 M) : Fr (SPs k0) M0 (mX2_reasonFor k0 k1 x2 x3 M) := by
  unfold mX2_reasonFor
  exact (Fr.b (fun x4_3 => (Fr.i (uX2_reasonFor_b20 hM) (uX2_reasonFor_b20 hM))))
end FFpsh
end
/-! part 60w.hit -/
section
/-! clamped legs, the gauge, what is hit -/
section HT
variable {M N M0 N0 : Mem} {k k1 b s : Nat}
def clm (b s j : Nat) : Prop := if s = 0 then j ≤ b else b < j
theorem pc_clC {j : Nat} (h : SH k b s M N) (hj : (j : Int) < (rd N 136 1).toInt) (h9 : (rd N 136 1).toInt ≤ 9) : Pc (mX2_isClamped k (Int32.ofNat j) M) (fun r => (r = 1 ∧ clm b s j) ∨ (r = 0 ∧ ¬ clm b s j)) := by
  unfold mX2_isClamped clm
  have tj : (Int32.ofNat j).toInt = (j : Int) := t_of (by omega)
  have h7 := h.2.2.1; have h8 := h.2.2.2
  refine Pc.i (fun c => Pc.ok (Or.inr ⟨rfl, ?_⟩)) (fun c => Pc.i (fun c2 => Pc.ok (Or.inr ⟨rfl, ?_⟩)) (fun c2 => Pc.ok (Or.inl ⟨rfl, ?_⟩)))
  · have c := i_lt.mp c
    rw [tj, h7] at c
    split at c
    · exfalso; omega
    · rename_i e; rw [if_neg e]; omega
  · have c2 := i_lt.mp c2
    rw [tj, h8] at c2
    split at c2
    · rename_i e; rw [if_pos e]; omega
    · exfalso; omega
  · have c := i_nlt c
    have c2 := i_nlt c2
    rw [tj, h7] at c
    rw [tj, h8] at c2
    split
    · rename_i e; rw [if_pos e] at c2; omega
    · rename_i e; rw [if_neg e] at c; omega
theorem pc_clR {j : Nat} (hj : j < 100) (hb : b < 100) (hs : s < 2) : Pc (mX7_isClamped 135 (Int32.ofNat j) (Int32.ofNat b) (Int32.ofNat s) N) (fun r => (r = 1 ∧ clm b s j) ∨ (r = 0 ∧ ¬ clm b s j)) := by
  unfold mX7_isClamped clm
  have tj : (Int32.ofNat j).toInt = (j : Int) := t_of (by omega)
  have tb : (Int32.ofNat b).toInt = (b : Int) := t_of (by omega)
  have ts : (Int32.ofNat s).toInt = (s : Int) := t_of (by omega)
  refine Pc.i (fun c => Pc.i (fun c2 => Pc.ok (Or.inr ⟨rfl, ?_⟩)) (fun c2 => Pc.ok (Or.inl ⟨rfl, ?_⟩))) (fun c => Pc.i (fun c2 => Pc.ok (Or.inr ⟨rfl, ?_⟩)) (fun c2 => Pc.ok (Or.inl ⟨rfl, ?_⟩)))
  · have c := congrArg Int32.toInt c
    rw [ts, show ((0 : Int32)).toInt = 0 from rfl] at c
    have c2 := i_lt.mp c2
    rw [tj, tb] at c2
    rw [if_pos (by omega)]; omega
  · have c := congrArg Int32.toInt c
    rw [ts, show ((0 : Int32)).toInt = 0 from rfl] at c
    have c2 := i_nlt c2
    rw [tj, tb] at c2
    rw [if_pos (by omega)]; omega
  · have c := i_ne c
    rw [ts, show ((0 : Int32)).toInt = 0 from rfl] at c
    have c2 := i_le.mp c2
    rw [tj, tb] at c2
    rw [if_neg (by omega)]; omega
  · have c := i_ne c
    rw [ts, show ((0 : Int32)).toInt = 0 from rfl] at c
    have c2 := i_nle c2
    rw [tj, tb] at c2
    rw [if_neg (by omega)]; omega
theorem gauge_l (h : SH k b s M N) (hb : b < 100) (hs : s < 2) (h9 : (rd N 136 1).toInt ≤ 9) : ∀ (n m j : Nat) (acc : Int32), j ≤ 9 → R2 (mX2_reachToBack_l4 k M n acc (Int32.ofNat j)) (mX7_gaugeLaid_l5 135 N m (Int32.ofNat b) (Int32.ofNat s) acc (Int32.ofNat j)) (fun p q => p = q) := by
  intro n
  induction n with
  | zero => intro m j acc _; exact R2.nl
  | succ n IH =>
    intro m j acc hj
    cases m with
    | zero => exact R2.nr
    | succ m =>
      show R2 (mX2_reachToBack_b4 k M (mX2_reachToBack_l4 k M n) acc (Int32.ofNat j)) (mX7_gaugeLaid_b5 135 N (mX7_gaugeLaid_l5 135 N m) (Int32.ofNat b) (Int32.ofNat s) acc (Int32.ofNat j)) _
      unfold mX2_reachToBack_b4 mX7_gaugeLaid_b5 mX2_reachToBack_b38 mX7_gaugeLaid_b43
      have tj : (Int32.ofNat j).toInt = (j : Int) := t_of (by omega)
      have cj := c_of (a := j) (by omega)
      rw [h.2.1, cj]
      refine R2.kr (fun _ => R2.il (fun c => R2.ir (fun _ => R2.ok rfl) (fun z => absurd c z)) (fun c => R2.ir (fun z => absurd z c) (fun _ => R2.il (fun c9 => ?_) (fun _ => ?_))))
      · have c9 := i_le.mp c9
        have c := i_nle c
        have c : (Int32.ofNat j).toInt < (rd N 136 1).toInt := c
        rw [tj, show ((9 : Int32)).toInt = 9 from rfl] at c9
        exfalso; omega
      have c : (Int32.ofNat j).toInt < (rd N 136 1).toInt := i_nle c
      rw [tj] at c
      have nxt : ∀ (acc' : Int32), R2 (bnd (Int32.ofNat j + (1 : Int32)) (fun x2_38 => mX2_reachToBack_l4 k M n acc' x2_38)) (bnd (Int32.ofNat j + (1 : Int32)) (fun x4_44 => mX7_gaugeLaid_l5 135 N m (Int32.ofNat b) (Int32.ofNat s) acc' x4_44)) (fun p q => p = q) := by
        intro acc'
        refine R2.bl (fun x ex => R2.br (fun y ey => ?_))
        rw [ex, ey]
        have e := Int32.ofNat_add j 1
        rw [show Int32.ofNat j + (1 : Int32) = Int32.ofNat (j + 1) from e.symm]
        exact IH m (j + 1) acc' (by omega)
      refine R2.cl (pc_clC h c h9) (fun r p => R2.cr (pc_clR (b := b) (s := s) (N := N) (j := j) (by omega) hb hs) (fun r' p' => ?_))
      have e : r = r' := by
        rcases p with ⟨e, q⟩ | ⟨e, q⟩ <;> rcases p' with ⟨e', q'⟩ | ⟨e', q'⟩
        · rw [e, e']
        · exact absurd q q'
        · exact absurd q' q
        · rw [e, e']
      subst e
      refine R2.il (fun c0 => R2.ir (fun _ => nxt acc) (fun z => absurd c0 z)) (fun c0 => R2.ir (fun z => absurd z c0) (fun _ => R2.kl (fun _ => R2.bl (fun v ev => R2.kr (fun _ => ?_)))))
      have el : rd M (k + 1) j = rd N (135 + 8) j := (h.1 j c).1
      rw [ev, el]
      exact nxt _
theorem gauge_R (h : SH k b s M N) (hb : b < 100) (hs : s < 2) (h9 : (rd N 136 1).toInt ≤ 9) : R2 (mX2_reachToBack k M) (mX7_gaugeLaid 135 (Int32.ofNat b) (Int32.ofNat s) N) (fun p q => p = q) := by
  unfold mX2_reachToBack mX7_gaugeLaid
  exact gauge_l h hb hs h9 5000 5000 0 0 (by omega)
/-- a leg has a point in an open rectangle -/
def Ent (N : Mem) (l : Nat) (x2 x3 x4 x5 : Int32) : Prop := x2.toInt < x3.toInt ∧ x4.toInt < x5.toInt ∧ min (rd N 141 l).toInt (rd N 143 l).toInt < x3.toInt ∧ x2.toInt < max (rd N 141 l).toInt (rd N 143 l).toInt ∧ min (rd N 142 l).toInt (rd N 144 l).toInt < x5.toInt ∧ x4.toInt < max (rd N 142 l).toInt (rd N 144 l).toInt
theorem pc_enters {l : Nat} {x2 x3 x4 x5 : Int32} (hl : l < 100) (h : LG k M N l) : Pc (mX2_enters k (Int32.ofNat l) x2 x3 x4 x5 M) (fun r => (r = 1 ∧ Ent N l x2 x3 x4 x5) ∨ (r = 0 ∧ ¬ Ent N l x2 x3 x4 x5)) := by
  unfold mX2_enters Ent
  have cl := c_of (a := l) (by omega)
  obtain ⟨_, _, h3, h4, h5, h6⟩ := h
  rw [cl, h3, h4, h5, h6]
  have z : ∀ A : Prop, ¬ A → Pc (some (0 : Int32)) (fun r => (r = 1 ∧ A) ∨ (r = 0 ∧ ¬ A)) := fun A hA => Pc.ok (Or.inr ⟨rfl, hA⟩)
  refine Pc.i (fun c => z _ ?_) (fun c1 => Pc.i (fun c2 => Pc.k (fun _ => Pc.i (fun c => z _ ?_) (fun c3 => Pc.k (fun _ => Pc.i (fun c => z _ ?_) (fun c4 => Pc.k (fun _ => Pc.i (fun c => z _ ?_) (fun c5 => Pc.k (fun _ => Pc.i (fun c => z _ ?_) (fun c6 => Pc.ok (Or.inl ⟨rfl, ?_⟩)))))))))) (fun c => z _ ?_))
  · have c := i_le.mp c; omega
  · have c := i_le.mp c; rw [i_min] at c; omega
  · have c := i_le.mp c; rw [i_max] at c; omega
  · have c := i_le.mp c; rw [i_min] at c; omega
  · have c := i_le.mp c; rw [i_max] at c; omega
  · have c1 := i_nle c1; have c2 := i_lt.mp c2; have c3 := i_nle c3; have c4 := i_nle c4; have c5 := i_nle c5; have c6 := i_nle c6
    rw [i_min] at c3 c5
    rw [i_max] at c4 c6
    exact ⟨c1, c2, c3, c4, c5, c6⟩
  · have c := i_nlt c; omega
theorem pc_isCrossing {a b' lo hi : Int32} : Pc (mX7_isCrossing a b' lo hi N) (fun r => (r = 1 ∧ lo.toInt < hi.toInt ∧ min a.toInt b'.toInt < hi.toInt ∧ lo.toInt < max a.toInt b'.toInt) ∨ (r = 0 ∧ ¬ (lo.toInt < hi.toInt ∧ min a.toInt b'.toInt < hi.toInt ∧ lo.toInt < max a.toInt b'.toInt))) := by
  unfold mX7_isCrossing mX7_isCrossing_b37
  refine Pc.b (fun x ex => Pc.b (fun y ey => ?_))
  have ex := congrArg Int32.toInt ex
  have ey := congrArg Int32.toInt ey
  rw [i_min] at ex
  rw [i_max] at ey
  refine Pc.i (fun c => Pc.i (fun c2 => Pc.ok (Or.inr ⟨rfl, ?_⟩)) (fun c2 => Pc.i (fun c3 => Pc.ok (Or.inr ⟨rfl, ?_⟩)) (fun c3 => Pc.ok (Or.inl ⟨rfl, ?_⟩)))) (fun c => Pc.i (fun c2 => Pc.ok (Or.inr ⟨rfl, ?_⟩)) (fun c2 => Pc.ok (Or.inl ⟨rfl, ?_⟩)))
  · have c := congrArg Int32.toInt c; have c2 := i_le.mp c2; omega
  · have c := congrArg Int32.toInt c; have c3 := i_le.mp c3; omega
  · have c := congrArg Int32.toInt c; have c2 := i_nle c2; have c3 := i_nle c3; omega
  · have c := i_ne c; have c2 := i_le.mp c2; rw [i_min, i_max] at c2; omega
  · have c := i_ne c; have c2 := i_nle c2; rw [i_min, i_max] at c2; omega
theorem pc_isInside {l : Nat} {x2 x3 x4 x5 : Int32} (hl : l < 100) : Pc (mX7_isInside 135 (Int32.ofNat l) x2 x3 x4 x5 N) (fun r => (r = 1 ∧ Ent N l x2 x3 x4 x5) ∨ (r = 0 ∧ ¬ Ent N l x2 x3 x4 x5)) := by
  unfold mX7_isInside Ent
  have cl := c_of (a := l) (by omega)
  rw [cl]
  refine Pc.k (fun _ => Pc.k (fun _ => Pc.c pc_isCrossing (fun r p => ?_)))
  have pe : (r = 1 ∧ x2.toInt < x3.toInt ∧ min (rd N 141 l).toInt (rd N 143 l).toInt < x3.toInt ∧ x2.toInt < max (rd N 141 l).toInt (rd N 143 l).toInt) ∨ (r = 0 ∧ ¬ (x2.toInt < x3.toInt ∧ min (rd N 141 l).toInt (rd N 143 l).toInt < x3.toInt ∧ x2.toInt < max (rd N 141 l).toInt (rd N 143 l).toInt)) := p
  clear p
  rcases pe with ⟨rfl, pe⟩ | ⟨rfl, pe⟩
  · refine Pc.i (fun z => absurd z (by decide)) (fun _ => Pc.k (fun _ => Pc.k (fun _ => Pc.c pc_isCrossing (fun r' p' => ?_))))
    have pf : (r' = 1 ∧ x4.toInt < x5.toInt ∧ min (rd N 142 l).toInt (rd N 144 l).toInt < x5.toInt ∧ x4.toInt < max (rd N 142 l).toInt (rd N 144 l).toInt) ∨ (r' = 0 ∧ ¬ (x4.toInt < x5.toInt ∧ min (rd N 142 l).toInt (rd N 144 l).toInt < x5.toInt ∧ x4.toInt < max (rd N 142 l).toInt (rd N 144 l).toInt)) := p'
    clear p'
    rcases pf with ⟨rfl, pf⟩ | ⟨rfl, pf⟩
    · exact Pc.i (fun z => absurd z (by decide)) (fun _ => Pc.ok (Or.inl ⟨rfl, pe.1, pf.1, pe.2.1, pe.2.2, pf.2.1, pf.2.2⟩))
    · exact Pc.i (fun _ => Pc.ok (Or.inr ⟨rfl, fun z => pf ⟨z.2.1, z.2.2.2.2.1, z.2.2.2.2.2⟩⟩)) (fun z => absurd rfl z)
  · exact Pc.i (fun _ => Pc.ok (Or.inr ⟨rfl, fun z => pe ⟨z.1, z.2.2.1, z.2.2.2.1⟩⟩)) (fun z => absurd rfl z)
end HT
end
/-! part 60x.mask -/
section
/-! the legs that hit, as bits -/
theorem f_or9 : ∀ a, a < 512 → ∀ k, k < 9 → (Int32.ofNat a ||| ((1 : Int32) <<< (Int32.ofNat k &&& 31))) = Int32.ofNat (a ||| 2 ^ k) := by decide +kernel
section MK
variable {M N M0 N0 : Mem} {k k1 b s : Nat}
def HB (N : Mem) (l : Nat) : Prop := Ent N l (-(rd N 136 39)) 0 0 (rd N 136 40) ∨ Ent N l (-(rd N 136 41)) 0 (-(rd N 136 42)) 0
def HW (N : Mem) (l : Nat) : Prop := Ent N l 0 (rd N 136 43) 0 (rd N 136 44)
theorem or_0 (x : Int32) : x ||| 0 = x := Int32.or_zero
theorem bit_step {m j : Nat} {P : Nat → Prop} {Q : Prop} (hm : m < 2 ^ j) (hb : ∀ i, i < j → (m.testBit i = true ↔ P i)) (hQ : Q ↔ P j) : (Q → (m ||| 2 ^ j) < 2 ^ (j + 1) ∧ ∀ i, i < j + 1 → ((m ||| 2 ^ j).testBit i = true ↔ P i)) ∧ (¬ Q → m < 2 ^ (j + 1) ∧ ∀ i, i < j + 1 → (m.testBit i = true ↔ P i)) := by
  have h1 : 2 ^ j < 2 ^ (j + 1) := Nat.pow_lt_pow_right (by decide) (Nat.lt_succ_self j)
  refine ⟨fun q => ⟨Nat.or_lt_two_pow (by omega) h1, fun i hi => ?_⟩, fun q => ⟨by omega, fun i hi => ?_⟩⟩
  · rw [Nat.testBit_or, Nat.testBit_two_pow]
    by_cases e : i = j
    · subst e
      simp [hQ.mp q]
    · have : decide (j = i) = false := decide_eq_false (by omega)
      rw [this, Bool.or_false]
      exact hb i (by omega)
  · by_cases e : i = j
    · subst e
      rw [Nat.testBit_lt_two_pow hm]
      exact ⟨fun z => absurd z (by decide), fun z => absurd (hQ.mpr z) q⟩
    · exact hb i (by omega)
theorem pc_toolOf {a c : Int32} {i : Nat} (h : (((39 : Int32) + ((2 : Int32) * a)) + c).toNatClampNeg = i) : Pc (mX7_toolOf 135 a c N) (fun r => r = rd N 136 i) := by
  unfold mX7_toolOf
  rw [h]
  exact Pc.k (fun _ => Pc.ok rfl)
theorem pc_hits {l : Nat} {fr : Int32} (hl : l < 100) : Pc (mX7_hits 135 (Int32.ofNat l) fr N) (fun r => (r = 1 ∧ (HB N l ∨ (¬ fr = 0 ∧ HW N l))) ∨ (r = 0 ∧ ¬ (HB N l ∨ (¬ fr = 0 ∧ HW N l)))) := by
  have hB : Pc (mX7_hitsBeam 135 (Int32.ofNat l) N) (fun r => (r = 1 ∧ Ent N l (-(rd N 136 39)) 0 0 (rd N 136 40)) ∨ (r = 0 ∧ ¬ Ent N l (-(rd N 136 39)) 0 0 (rd N 136 40))) := by
    unfold mX7_hitsBeam
    refine Pc.c (pc_toolOf (i := 39) (by decide)) (fun r e => Pc.c (pc_toolOf (i := 40) (by decide)) (fun r' e' => Pc.c (pc_isInside hl) (fun q p => Pc.k (fun _ => Pc.ok ?_))))
    rw [e, e'] at p; exact p
  have hT : Pc (mX7_hitsTable 135 (Int32.ofNat l) N) (fun r => (r = 1 ∧ Ent N l (-(rd N 136 41)) 0 (-(rd N 136 42)) 0) ∨ (r = 0 ∧ ¬ Ent N l (-(rd N 136 41)) 0 (-(rd N 136 42)) 0)) := by
    unfold mX7_hitsTable
    refine Pc.c (pc_toolOf (i := 41) (by decide)) (fun r e => Pc.c (pc_toolOf (i := 42) (by decide)) (fun r' e' => Pc.c (pc_isInside hl) (fun q p => Pc.k (fun _ => Pc.ok ?_))))
    rw [e, e'] at p; exact p
  have hWg : Pc (mX7_hitsWing 135 (Int32.ofNat l) N) (fun r => (r = 1 ∧ HW N l) ∨ (r = 0 ∧ ¬ HW N l)) := by
    unfold mX7_hitsWing HW
    refine Pc.c (pc_toolOf (i := 43) (by decide)) (fun r e => Pc.c (pc_toolOf (i := 44) (by decide)) (fun r' e' => Pc.c (pc_isInside hl) (fun q p => Pc.k (fun _ => Pc.ok ?_))))
    rw [e, e'] at p; exact p
  unfold mX7_hits HB
  refine Pc.c hB (fun r p => ?_)
  rcases p with ⟨rfl, p⟩ | ⟨rfl, p⟩
  · exact Pc.i (fun z => absurd z (by decide)) (fun _ => Pc.ok (Or.inl ⟨rfl, Or.inl (Or.inl p)⟩))
  refine Pc.i (fun _ => Pc.c hT (fun r2 p2 => ?_)) (fun z => absurd rfl z)
  rcases p2 with ⟨rfl, p2⟩ | ⟨rfl, p2⟩
  · exact Pc.i (fun z => absurd z (by decide)) (fun _ => Pc.ok (Or.inl ⟨rfl, Or.inl (Or.inr p2)⟩))
  refine Pc.i (fun _ => Pc.i (fun c => Pc.ok (Or.inr ⟨rfl, fun z => ?_⟩)) (fun c => Pc.c hWg (fun r3 p3 => ?_))) (fun z => absurd rfl z)
  · rcases z with (z | z) | z
    · exact p z
    · exact p2 z
    · exact z.1 c
  · rcases p3 with ⟨rfl, p3⟩ | ⟨rfl, p3⟩
    · exact Pc.i (fun z => absurd z (by decide)) (fun _ => Pc.ok (Or.inl ⟨rfl, Or.inr ⟨c, p3⟩⟩))
    · refine Pc.i (fun _ => Pc.ok (Or.inr ⟨rfl, fun z => ?_⟩)) (fun z => absurd rfl z)
      rcases z with (z | z) | z
      · exact p z
      · exact p2 z
      · exact p3 z.2
/-- what the reference's bits tell -/
def RB (N : Mem) (b s : Nat) (c fr : Int32) (l : Nat) : Prop := (clm b s l ∧ ¬ c = 0 ∧ HB N l) ∨ (¬ clm b s l ∧ ¬ fr = 0 ∧ (HB N l ∨ HW N l))
theorem hitR_l {c fr : Int32} (hb : b < 100) (hs : s < 2) (h0 : 0 ≤ (rd N 136 1).toInt) (h9 : (rd N 136 1).toInt ≤ 9) : ∀ (n j m : Nat), (j : Int) ≤ (rd N 136 1).toInt → m < 2 ^ j → (∀ i, i < j → (m.testBit i = true ↔ RB N b s c fr i)) → Pc (mX7_hittingLaid_l6 135 N n (Int32.ofNat b) (Int32.ofNat s) c fr (Int32.ofNat m) (Int32.ofNat j)) (fun r => ∃ m : Nat, r = Int32.ofNat m ∧ m < 2 ^ (rd N 136 1).toInt.toNat ∧ ∀ i, i < (rd N 136 1).toInt.toNat → (m.testBit i = true ↔ RB N b s c fr i)) := by
  intro n
  induction n with
  | zero => intro j m _ _ _; exact Pc.n
  | succ n IH =>
    intro j m hj hm hbt
    show Pc (mX7_hittingLaid_b6 135 N (mX7_hittingLaid_l6 135 N n) (Int32.ofNat b) (Int32.ofNat s) c fr (Int32.ofNat m) (Int32.ofNat j)) _
    unfold mX7_hittingLaid_b6
    have tj : (Int32.ofNat j).toInt = (j : Int) := t_of (by omega)
    refine Pc.k (fun _ => Pc.i (fun q => ?_) (fun q => ?_))
    · have q : (rd N 136 1).toInt ≤ (Int32.ofNat j).toInt := i_le.mp q
      rw [tj] at q
      have e : (rd N 136 1).toInt.toNat = j := by omega
      refine Pc.ok ⟨m, rfl, ?_, ?_⟩
      · rw [e]; exact hm
      · rw [e]; exact hbt
    · have q : (Int32.ofNat j).toInt < (rd N 136 1).toInt := i_nle q
      rw [tj] at q
      have m512 : m < 512 := by
        have : 2 ^ j ≤ 2 ^ 9 := Nat.pow_le_pow_right (by decide) (by omega)
        have h2 : (2 : Nat) ^ 9 = 512 := rfl
        omega
      have en : Int32.ofNat j + (1 : Int32) = Int32.ofNat (j + 1) := (Int32.ofNat_add j 1).symm
      have yes : RB N b s c fr j → Pc (mX7_hittingLaid_b73 135 N (mX7_hittingLaid_l6 135 N n) (Int32.ofNat b) (Int32.ofNat s) c fr (Int32.ofNat j) (Int32.ofNat m) ((1 : Int32) <<< (Int32.ofNat j &&& 31))) (fun r => ∃ m : Nat, r = Int32.ofNat m ∧ m < 2 ^ (rd N 136 1).toInt.toNat ∧ ∀ i, i < (rd N 136 1).toInt.toNat → (m.testBit i = true ↔ RB N b s c fr i)) := by
        intro hR
        unfold mX7_hittingLaid_b73
        refine Pc.b (fun v ev => Pc.b (fun w ew => ?_))
        rw [f_or9 m m512 j (by omega)] at ev
        rw [ev, ew, en]
        have st := (bit_step (P := RB N b s c fr) (Q := RB N b s c fr j) hm hbt Iff.rfl).1 hR
        exact IH (j + 1) _ (by omega) st.1 st.2
      have no : ¬ RB N b s c fr j → Pc (mX7_hittingLaid_b72 135 N (mX7_hittingLaid_l6 135 N n) (Int32.ofNat b) (Int32.ofNat s) c fr (Int32.ofNat j) (Int32.ofNat m)) (fun r => ∃ m : Nat, r = Int32.ofNat m ∧ m < 2 ^ (rd N 136 1).toInt.toNat ∧ ∀ i, i < (rd N 136 1).toInt.toNat → (m.testBit i = true ↔ RB N b s c fr i)) := by
        intro hR
        unfold mX7_hittingLaid_b72 mX7_hittingLaid_b73
        refine Pc.b (fun v ev => Pc.b (fun w ew => ?_))
        rw [or_0] at ev
        rw [ev, ew, en]
        have st := (bit_step (P := RB N b s c fr) (Q := RB N b s c fr j) hm hbt Iff.rfl).2 hR
        exact IH (j + 1) _ (by omega) st.1 st.2
      refine Pc.c (pc_clR (b := b) (s := s) (N := N) (j := j) (by omega) hb hs) (fun r4 p4 => ?_)
      unfold mX7_hittingLaid_b33 mX7_hittingLaid_b54
      rcases p4 with ⟨rfl, hcl⟩ | ⟨rfl, hcl⟩
      · refine Pc.i (fun z => absurd z (by decide)) (fun _ => Pc.i (fun _ => Pc.i (fun c0 => no ?_) (fun c0 => Pc.c (pc_hits (by omega)) (fun r p => ?_))) (fun z => absurd rfl z))
        · intro z
          rcases z with z | z
          · exact z.2.1 c0
          · exact z.1 hcl
        · rcases p with ⟨rfl, p⟩ | ⟨rfl, p⟩
          · refine Pc.i (fun z => absurd z (by decide)) (fun _ => yes (Or.inl ⟨hcl, c0, ?_⟩))
            rcases p with p | p
            · exact p
            · exact absurd rfl p.1
          · refine Pc.i (fun _ => no ?_) (fun z => absurd rfl z)
            intro z
            rcases z with z | z
            · exact p (Or.inl z.2.2)
            · exact z.1 hcl
      · refine Pc.i (fun _ => Pc.i (fun z => absurd z (by decide)) (fun _ => Pc.i (fun c0 => no ?_) (fun c0 => Pc.c (pc_hits (by omega)) (fun r p => ?_)))) (fun z => absurd rfl z)
        · intro z
          rcases z with z | z
          · exact hcl z.1
          · exact z.2.1 c0
        · rcases p with ⟨rfl, p⟩ | ⟨rfl, p⟩
          · refine Pc.i (fun z => absurd z (by decide)) (fun _ => yes (Or.inr ⟨hcl, c0, ?_⟩))
            rcases p with p | p
            · exact Or.inl p
            · exact Or.inr p.2
          · refine Pc.i (fun _ => no ?_) (fun z => absurd rfl z)
            intro z
            rcases z with z | z
            · exact hcl z.1
            · rcases z.2.2 with z | z
              · exact p (Or.inl z)
              · exact p (Or.inr ⟨by decide, z⟩)
theorem pc_hitR {c fr : Int32} (hb : b < 100) (hs : s < 2) (h0 : 0 ≤ (rd N 136 1).toInt) (h9 : (rd N 136 1).toInt ≤ 9) : Pc (mX7_hittingLaid 135 (Int32.ofNat b) (Int32.ofNat s) c fr N) (fun r => ∃ m : Nat, r = Int32.ofNat m ∧ m < 2 ^ (rd N 136 1).toInt.toNat ∧ ∀ i, i < (rd N 136 1).toInt.toNat → (m.testBit i = true ↔ RB N b s c fr i)) := by
  unfold mX7_hittingLaid
  exact hitR_l hb hs h0 h9 5000 0 0 (by omega) (by decide) (fun i hi => by omega)
end MK
end
/-! part 60y.maskc -/
section
/-! the class's bits of hits; legs that cross -/
section MC
variable {M N M0 N0 : Mem} {k k1 b s : Nat}
/-- what the class's bits tell -/
def CB (N : Mem) (b s l : Nat) : Prop := HB N l ∨ (¬ clm b s l ∧ HW N l)
theorem hitC_l (h : SH k b s M N) (h9 : (rd N 136 1).toInt ≤ 9) (ht : ∀ j, j < 10 → rd M (k1 + 2) j = rd N 136 (39 + j)) : ∀ (n j m : Nat), (j : Int) ≤ (rd N 136 1).toInt → m < 2 ^ j → (∀ i, i < j → (m.testBit i = true ↔ CB N b s i)) → Pc (mX2_legsHitting_l10 k k1 M n (Int32.ofNat m) (Int32.ofNat j)) (fun r => ∃ m : Nat, r = Int32.ofNat m ∧ m < 2 ^ (rd N 136 1).toInt.toNat ∧ ∀ i, i < (rd N 136 1).toInt.toNat → (m.testBit i = true ↔ CB N b s i)) := by
  intro n
  induction n with
  | zero => intro j m _ _ _; exact Pc.n
  | succ n IH =>
    intro j m hj hm hbt
    show Pc (mX2_legsHitting_b10 k k1 M (mX2_legsHitting_l10 k k1 M n) (Int32.ofNat m) (Int32.ofNat j)) _
    unfold mX2_legsHitting_b10
    have tj : (Int32.ofNat j).toInt = (j : Int) := t_of (by omega)
    have z0 : rd M (k1 + 2) ((0 : Int32)).toNatClampNeg = rd N 136 39 := ht 0 (by decide)
    have z1 : rd M (k1 + 2) ((1 : Int32)).toNatClampNeg = rd N 136 40 := ht 1 (by decide)
    have z2 : rd M (k1 + 2) ((2 : Int32)).toNatClampNeg = rd N 136 41 := ht 2 (by decide)
    have z3 : rd M (k1 + 2) ((3 : Int32)).toNatClampNeg = rd N 136 42 := ht 3 (by decide)
    have z4 : rd M (k1 + 2) ((4 : Int32)).toNatClampNeg = rd N 136 43 := ht 4 (by decide)
    have z5 : rd M (k1 + 2) ((5 : Int32)).toNatClampNeg = rd N 136 44 := ht 5 (by decide)
    rw [h.2.1, z0, z1, z2, z3, z4, z5]
    have fin : (rd N 136 1).toInt ≤ (j : Int) → Pc (some (Int32.ofNat m)) (fun r => ∃ m : Nat, r = Int32.ofNat m ∧ m < 2 ^ (rd N 136 1).toInt.toNat ∧ ∀ i, i < (rd N 136 1).toInt.toNat → (m.testBit i = true ↔ CB N b s i)) := by
      intro q
      have e : (rd N 136 1).toInt.toNat = j := by omega
      refine Pc.ok ⟨m, rfl, ?_, ?_⟩
      · rw [e]; exact hm
      · rw [e]; exact hbt
    refine Pc.i (fun q => ?_) (fun q => Pc.i (fun q9 => ?_) (fun _ => ?_))
    · have q := i_le.mp q
      rw [tj] at q
      exact fin q
    · have q9 := i_le.mp q9
      rw [tj, show ((9 : Int32)).toInt = 9 from rfl] at q9
      exact fin (by omega)
    · have q := i_nle q
      rw [tj] at q
      have m512 : m < 512 := by
        have : 2 ^ j ≤ 2 ^ 9 := Nat.pow_le_pow_right (by decide) (by omega)
        have h2 : (2 : Nat) ^ 9 = 512 := rfl
        omega
      have en : Int32.ofNat j + (1 : Int32) = Int32.ofNat (j + 1) := (Int32.ofNat_add j 1).symm
      have lg := h.1 j q
      have yes : CB N b s j → Pc (mX2_legsHitting_b89 k k1 M (mX2_legsHitting_l10 k k1 M n) (Int32.ofNat m) (Int32.ofNat j)) (fun r => ∃ m : Nat, r = Int32.ofNat m ∧ m < 2 ^ (rd N 136 1).toInt.toNat ∧ ∀ i, i < (rd N 136 1).toInt.toNat → (m.testBit i = true ↔ CB N b s i)) := by
        intro hR
        unfold mX2_legsHitting_b89 mX2_legsHitting_b94 mX2_legsHitting_b108
        refine Pc.i (fun z => absurd z (by decide)) (fun _ => Pc.b (fun v ev => Pc.b (fun w ew => ?_)))
        rw [f_or9 m m512 j (by omega)] at ev
        rw [ev, ew, en]
        have st := (bit_step (P := CB N b s) (Q := CB N b s j) hm hbt Iff.rfl).1 hR
        exact IH (j + 1) _ (by omega) st.1 st.2
      have no : ¬ CB N b s j → Pc (mX2_legsHitting_b93 k k1 M (mX2_legsHitting_l10 k k1 M n) (Int32.ofNat m) (Int32.ofNat j)) (fun r => ∃ m : Nat, r = Int32.ofNat m ∧ m < 2 ^ (rd N 136 1).toInt.toNat ∧ ∀ i, i < (rd N 136 1).toInt.toNat → (m.testBit i = true ↔ CB N b s i)) := by
        intro hR
        unfold mX2_legsHitting_b93 mX2_legsHitting_b94 mX2_legsHitting_b108
        refine Pc.i (fun _ => Pc.b (fun w ew => ?_)) (fun z => absurd rfl z)
        rw [ew, en]
        have st := (bit_step (P := CB N b s) (Q := CB N b s j) hm hbt Iff.rfl).2 hR
        exact IH (j + 1) _ (by omega) st.1 st.2
      refine Pc.k (fun _ => Pc.k (fun _ => Pc.c (pc_enters (by omega) lg) (fun r p => ?_)))
      rcases p with ⟨rfl, p⟩ | ⟨rfl, p⟩
      · exact Pc.i (fun z => absurd z (by decide)) (fun _ => yes (Or.inl (Or.inl p)))
      refine Pc.i (fun _ => Pc.k (fun _ => Pc.k (fun _ => Pc.c (pc_enters (by omega) lg) (fun r2 p2 => ?_)))) (fun z => absurd rfl z)
      rcases p2 with ⟨rfl, p2⟩ | ⟨rfl, p2⟩
      · exact Pc.i (fun z => absurd z (by decide)) (fun _ => yes (Or.inl (Or.inr p2)))
      refine Pc.i (fun _ => Pc.c (pc_clC h q h9) (fun r4 p4 => ?_)) (fun z => absurd rfl z)
      rcases p4 with ⟨rfl, p4⟩ | ⟨rfl, p4⟩
      · refine Pc.i (fun z => absurd z (by decide)) (fun _ => no ?_)
        intro z
        rcases z with (z | z) | z
        · exact p z
        · exact p2 z
        · exact z.1 p4
      refine Pc.i (fun _ => Pc.k (fun _ => Pc.k (fun _ => Pc.c (pc_enters (by omega) lg) (fun r5 p5 => ?_)))) (fun z => absurd rfl z)
      rcases p5 with ⟨rfl, p5⟩ | ⟨rfl, p5⟩
      · exact Pc.i (fun z => absurd z (by decide)) (fun _ => yes (Or.inr ⟨p4, p5⟩))
      · refine Pc.i (fun _ => no ?_) (fun z => absurd rfl z)
        intro z
        rcases z with (z | z) | z
        · exact p z
        · exact p2 z
        · exact p5 z.2
theorem pc_hitC (h : SH k b s M N) (h0 : 0 ≤ (rd N 136 1).toInt) (h9 : (rd N 136 1).toInt ≤ 9) (ht : ∀ j, j < 10 → rd M (k1 + 2) j = rd N 136 (39 + j)) : Pc (mX2_legsHitting k k1 M) (fun r => ∃ m : Nat, r = Int32.ofNat m ∧ m < 2 ^ (rd N 136 1).toInt.toNat ∧ ∀ i, i < (rd N 136 1).toInt.toNat → (m.testBit i = true ↔ CB N b s i)) := by
  unfold mX2_legsHitting
  exact hitC_l h h9 ht 5000 0 0 (by omega) (by decide) (fun i hi => by omega)
/-! crossing -/
/-- two legs have a point in common -/
def Tch (N : Mem) (i j : Nat) : Prop := min (rd N 141 i).toInt (rd N 143 i).toInt ≤ max (rd N 141 j).toInt (rd N 143 j).toInt ∧ min (rd N 141 j).toInt (rd N 143 j).toInt ≤ max (rd N 141 i).toInt (rd N 143 i).toInt ∧ min (rd N 142 i).toInt (rd N 144 i).toInt ≤ max (rd N 142 j).toInt (rd N 144 j).toInt ∧ min (rd N 142 j).toInt (rd N 144 j).toInt ≤ max (rd N 142 i).toInt (rd N 144 i).toInt
theorem Tch.symm {i j : Nat} (h : Tch N i j) : Tch N j i := ⟨h.2.1, h.1, h.2.2.2, h.2.2.1⟩
def Crs (N : Mem) (L : Nat) : Prop := ∃ i j, i + 2 ≤ j ∧ j < L ∧ Tch N i j
theorem pc_touch {i j : Nat} (hi : i < 100) (hj : j < 100) (h1 : LG k M N i) (h2 : LG k M N j) : Pc (mX2_touch k (Int32.ofNat i) (Int32.ofNat j) M) (fun r => (r = 1 ∧ Tch N i j) ∨ (r = 0 ∧ ¬ Tch N i j)) := by
  unfold mX2_touch Tch
  have ci := c_of (a := i) (by omega)
  have cj := c_of (a := j) (by omega)
  obtain ⟨_, _, a3, a4, a5, a6⟩ := h1
  obtain ⟨_, _, b3, b4, b5, b6⟩ := h2
  rw [ci, cj, a3, a4, a5, a6, b3, b4, b5, b6]
  refine Pc.k (fun _ => Pc.k (fun _ => Pc.i (fun c => Pc.ok (Or.inr ⟨rfl, ?_⟩)) (fun c1 => Pc.k (fun _ => Pc.k (fun _ => Pc.i (fun c => Pc.ok (Or.inr ⟨rfl, ?_⟩)) (fun c2 => Pc.k (fun _ => Pc.k (fun _ => Pc.i (fun c => Pc.ok (Or.inr ⟨rfl, ?_⟩)) (fun c3 => Pc.k (fun _ => Pc.k (fun _ => Pc.i (fun c => Pc.ok (Or.inr ⟨rfl, ?_⟩)) (fun c4 => Pc.ok (Or.inl ⟨rfl, ?_⟩)))))))))))))
  · have c := i_lt.mp c; rw [i_min, i_max] at c; omega
  · have c := i_lt.mp c; rw [i_min, i_max] at c; omega
  · have c := i_lt.mp c; rw [i_min, i_max] at c; omega
  · have c := i_lt.mp c; rw [i_min, i_max] at c; omega
  · have c1 := i_nlt c1; have c2 := i_nlt c2; have c3 := i_nlt c3; have c4 := i_nlt c4
    rw [i_min, i_max] at c1 c2 c3 c4
    exact ⟨c1, c2, c3, c4⟩
theorem pc_overlap {a b' c d : Int32} : Pc (mX7_overlap a b' c d N) (fun r => (r = 1 ∧ min a.toInt b'.toInt ≤ max c.toInt d.toInt ∧ min c.toInt d.toInt ≤ max a.toInt b'.toInt) ∨ (r = 0 ∧ ¬ (min a.toInt b'.toInt ≤ max c.toInt d.toInt ∧ min c.toInt d.toInt ≤ max a.toInt b'.toInt))) := by
  unfold mX7_overlap
  refine Pc.i (fun q => Pc.ok (Or.inr ⟨rfl, ?_⟩)) (fun q => Pc.ok (Or.inl ⟨rfl, ?_⟩))
  · have q := i_lt.mp q
    rw [i_min, i_max, i_max, i_max, i_min, i_min] at q
    omega
  · have q := i_nlt q
    rw [i_min, i_max, i_max, i_max, i_min, i_min] at q
    omega
theorem crsC_in {ih : Int32 → Option Int32} {P : Int32 → Prop} {i : Nat} (h : ∀ j : Nat, (j : Int) < (rd N 136 1).toInt → LG k M N j) (hi : (i : Int) < (rd N 136 1).toInt) (h9 : (rd N 136 1).toInt ≤ 9) (hi2 : 2 ≤ i) (hno : (∀ j, j + 2 ≤ i → ¬ Tch N j i) → Pc (ih (Int32.ofNat (i + 1))) P) (hye : (∃ j, j + 2 ≤ i ∧ Tch N j i) → P 1) : ∀ (n j : Nat), j + 1 ≤ i → (∀ q, q < j → ¬ Tch N q i) → Pc (mX2_crossesItself_l18 k M ih n (Int32.ofNat i) (Int32.ofNat j)) P := by
  intro n
  induction n with
  | zero => intro j _ _; exact Pc.n
  | succ n IH =>
    intro j hj hq
    show Pc (mX2_crossesItself_b18 k M ih (mX2_crossesItself_l18 k M ih n) (Int32.ofNat i) (Int32.ofNat j)) _
    unfold mX2_crossesItself_b18
    have ti : (Int32.ofNat i).toInt = (i : Int) := t_of (by omega)
    have tj : (Int32.ofNat j).toInt = (j : Int) := t_of (by omega)
    have n1 : ((1 : Int32)).toInt = 1 := rfl
    have e1 := i_sub (a := Int32.ofNat i) (b := 1) (by omega) (by omega)
    have en : Int32.ofNat i + (1 : Int32) = Int32.ofNat (i + 1) := (Int32.ofNat_add i 1).symm
    have em : Int32.ofNat j + (1 : Int32) = Int32.ofNat (j + 1) := (Int32.ofNat_add j 1).symm
    refine Pc.i (fun c => Pc.b (fun v ev => ?_)) (fun c => Pc.c (pc_touch (by omega) (by omega) (h i hi) (h j (by omega))) (fun r p => ?_))
    · have c := i_le.mp c
      rw [e1, ti, tj, n1] at c
      rw [ev, en]
      exact hno (fun q hq2 => hq q (by omega))
    · have c := i_nle c
      rw [e1, ti, tj, n1] at c
      rcases p with ⟨rfl, p⟩ | ⟨rfl, p⟩
      · exact Pc.i (fun z => absurd z (by decide)) (fun _ => Pc.ok (hye ⟨j, by omega, p.symm⟩))
      · refine Pc.i (fun _ => Pc.b (fun v ev => ?_)) (fun z => absurd rfl z)
        rw [ev, em]
        refine IH (j + 1) (by omega) (fun q hq2 => ?_)
        by_cases e : q = j
        · rw [e]; exact fun z => p z.symm
        · exact hq q (by omega)
theorem crsC_l (h : ∀ j : Nat, (j : Int) < (rd N 136 1).toInt → LG k M N j) (h6 : rd M k 6 = rd N 136 1) (h0 : 0 ≤ (rd N 136 1).toInt) (h9 : (rd N 136 1).toInt ≤ 9) : ∀ (n i : Nat), 2 ≤ i → i ≤ 10 → (∀ q j, q + 2 ≤ j → j < i → ¬ Tch N q j) → Pc (mX2_crossesItself_l2 k M n (Int32.ofNat i)) (fun r => (r = 1 ∧ Crs N (rd N 136 1).toInt.toNat) ∨ (r = 0 ∧ ¬ Crs N (rd N 136 1).toInt.toNat)) := by
  intro n
  induction n with
  | zero => intro i _ _ _; exact Pc.n
  | succ n IH =>
    intro i hi hi9 hq
    show Pc (mX2_crossesItself_b2 k M (mX2_crossesItself_l2 k M n) (Int32.ofNat i)) _
    unfold mX2_crossesItself_b2
    have ti : (Int32.ofNat i).toInt = (i : Int) := t_of (by omega)
    rw [h6]
    have fin : (rd N 136 1).toInt ≤ (i : Int) → Pc (some (0 : Int32)) (fun r => (r = 1 ∧ Crs N (rd N 136 1).toInt.toNat) ∨ (r = 0 ∧ ¬ Crs N (rd N 136 1).toInt.toNat)) := by
      intro c
      refine Pc.ok (Or.inr ⟨rfl, ?_⟩)
      rintro ⟨q, j, a1, a2, a3⟩
      exact hq q j a1 (by omega) a3
    refine Pc.i (fun c => ?_) (fun c => Pc.i (fun c9 => ?_) (fun _ => ?_))
    · have c := i_le.mp c
      rw [ti] at c
      exact fin c
    · have c9 := i_le.mp c9
      rw [ti, show ((9 : Int32)).toInt = 9 from rfl] at c9
      exact fin (by omega)
    · have c := i_nle c
      rw [ti] at c
      refine crsC_in h c h9 hi (fun hn => IH (i + 1) (by omega) (by omega) (fun q j a1 a2 => ?_)) (fun hy => ?_) 5000 0 (by omega) (fun q hq2 => by omega)
      · by_cases e : j = i
        · subst e; exact hn q a1
        · exact hq q j a1 (by omega)
      · obtain ⟨j, a1, a2⟩ := hy
        exact Or.inl ⟨rfl, j, i, a1, by omega, a2⟩
theorem pc_crsC (h : ∀ j : Nat, (j : Int) < (rd N 136 1).toInt → LG k M N j) (h6 : rd M k 6 = rd N 136 1) (h0 : 0 ≤ (rd N 136 1).toInt) (h9 : (rd N 136 1).toInt ≤ 9) : Pc (mX2_crossesItself k M) (fun r => (r = 1 ∧ Crs N (rd N 136 1).toInt.toNat) ∨ (r = 0 ∧ ¬ Crs N (rd N 136 1).toInt.toNat)) := by
  unfold mX2_crossesItself
  exact crsC_l h h6 h0 h9 5000 2 (by omega) (by omega) (fun q j a1 a2 => by omega)
end MC
end
