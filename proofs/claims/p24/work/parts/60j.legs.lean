/-! the statements of legs, bends and spring-back; all of them -/
section LS
variable {M N M0 N0 : Mem} {f : Nat → Int32} {w n i : Nat}
theorem k137 {j : Nat} {v : Int32} {N1 : Mem} (h : KS (fun k _ => k = 137) N N1) : KS (fun k _ => k = 137) N (wr N1 137 j v) := h.wr rfl
theorem ub_or {a k : Nat} (ha : a < 2 ^ k) (hk : k < 8) : (Int32.ofNat a ||| ((1 : Int32) <<< (Int32.ofNat k &&& 31))).toInt = ((a ||| 2 ^ k : Nat) : Int) ∧ (a ||| 2 ^ k) < 2 ^ (k + 1) ∧ (a ||| 2 ^ k) ≤ 255 := by
  have h2 : 2 ^ k ≤ 128 := by
    have : 2 ^ k ≤ 2 ^ 7 := Nat.pow_le_pow_right (by decide) (by omega)
    exact this
  have h3 : (a ||| 2 ^ k) < 2 ^ (k + 1) := Nat.or_lt_two_pow (by have := Nat.pow_lt_pow_right (a := 2) (by decide) (Nat.lt_succ_self k); omega) (Nat.pow_lt_pow_right (by decide) (Nat.lt_succ_self k))
  have h4 : 2 ^ (k + 1) ≤ 2 ^ 8 := Nat.pow_le_pow_right (by decide) (by omega)
  have h5 : (2 : Nat) ^ 8 = 256 := rfl
  refine ⟨?_, h3, by omega⟩
  rw [f_or a (by omega) k hk, t_of (by omega)]
theorem st_leg (hT : TT M N) (ht : rd N 135 13 = 2) (h : BX (row 137 N) M N) : R2 (mX4_readStatement_b32v1 2 13 1 M) (cal (mX7_legStatement 135 N) (fun q r => chk (isB r) (KK q r))) SRel := by
  unfold mX4_readStatement_b32v1 mX7_legStatement
  simp only [cal_ite, cal_cap, cal_cal, cal_chk, cal_some, cal_bnd]
  have lc : rd M 13 0 = rd N 137 1 := h.pr.lc
  refine R2.cl eow_leg (fun e he => R2.kr (fun _ => R2.ir (fun c => ?_) (fun c => ?_)))
  · have c : (rd N 137 1).toInt ≤ 0 := i_le.mp c
    have he : e = 0 := by
      rcases he with ⟨q, _⟩ | ⟨_, q⟩
      · rw [lc] at q; omega
      · exact q
    have l0 := h.pr.lb
    have f1 : (rd N 137 1).toInt = 0 := by have : 0 ≤ (rd N 137 1).toInt := l0.1; omega
    subst he
    unfold mX4_readStatement_b51v1
    generalize (5000 : Nat) = n0
    refine numX (w := 1) (i := 0) (j := 2) (by decide) (by decide) h (fun M' N' hB _ hv => ?_) (by decide) (fun M1 => Pc.i (fun _ => kk_0 M1) (fun q => absurd rfl q)) (fun n1 M1 N1 v1 b1 r1 s1 t1 w1 => ?_)
    · rw [alw0, hv]; exact ⟨fun h => h.1, fun h => ⟨h, fun q => absurd q (by decide)⟩⟩
    refine adv_1 ?_
    refine step_z (by decide) (by decide) (by decide) (fun n2 M2 e2 => step_z (by decide) (by decide) (by decide) (fun n3 M3 e3 => ?_))
    have b3 : BX (row 137 N) M3 N1 := by rw [e3, e2]; exact b1.put3.put3
    have z0 : rd M3 3 0 = v1 := by rw [e3, rd_wj (by decide), e2, rd_wj (by decide)]; exact s1
    refine endX b3 (fun M4 N4 hT4 b4 s4 w4 => R2.kr (fun _ => R2.br (fun N5 e5 => ?_)))
    have e5 : N5 = wr N4 137 1 1 := e5
    have l4 : (rd M4 13 0).toInt = ((0 : Nat) : Int) := by rw [b4.pr.lc]; exact f1
    refine fin2 (N0 := N5) hT4 b4 (by rw [e5]; exact k137 KS.rf) (Pc.mono (acc_leg (m := 0) (Or.inl rfl) l4 (by decide)) (fun q hq => ?_))
    have u0 := b4.pr.uz
    have n0' : (row 137 N 0).toInt = 0 := by rw [b4.pr.nn, if_pos f1]
    rw [n0'] at u0
    have u0 : (rd M4 13 2).toInt.toNat < 1 := u0
    have g5 : row 137 N5 = upf (upf (row 137 N) 2 v1) 1 1 := by rw [e5, row_wr, w4, w1]
    refine ⟨?_, fun k j hk => ?_⟩
    · refine PR.mem (M := wr (wr (wr M4 14 0 (rd M4 3 0)) 13 2 (rd M4 13 2)) 13 0 (rd M4 13 0 + 1)) ?_ (fun c j _ _ => by rw [hq, if_neg (by omega)])
      have e0 : rd M4 13 0 = 0 := i_eq.mpr l4
      refine b4.pr.legs (n := 0) f1 (by decide) ?_ (fun j hj => ?_) ?_ ?_ (fun j hj => by omega) ?_ b4.pr.ub (fun b hb => by omega) u0
      · rw [e0]; rfl
      · rw [g5]; unfold upf; rw [if_neg (by omega), if_neg (by omega)]
      · rw [g5, upf_e, e0]; rfl
      · rw [g5, upf_n (by decide), upf_n (by decide)]; exact n0'
      · rw [g5, upf_n (by decide), upf_e, s4]; exact z0.symm
    · rw [hq, rd_eq, rd_eq, rd_eq, if_neg (by omega), if_neg (by omega), if_neg (by omega)]
  · have c : 0 < (rd N 137 1).toInt := i_nle c
    have he : e = 4 := by
      rcases he with ⟨_, q⟩ | ⟨q, _⟩
      · exact q
      · rw [lc] at q; omega
    exact word_err (by rw [he]; decide) hT ht he
theorem up4_at {f : Nat → Int32} {p : Nat} {v x b c : Int32} (hp : p < 8) (g : Nat → Int32) (hg : g = upf (upf (upf (upf f (3 + p) v) (11 + p) x) 0 b) 1 c) : (∀ j, 19 ≤ j → g j = f j) ∧ (∀ j, j < p + 1 → g (2 + j) = f (2 + j)) ∧ g (2 + (p + 1)) = v ∧ (∀ b', b' < p → g (11 + b') = f (11 + b')) ∧ g (11 + p) = x ∧ g 1 = c ∧ g 0 = b := by
  subst hg
  unfold upf
  refine ⟨fun j hj => ?_, fun j hj => ?_, ?_, fun j hj => ?_, ?_, ?_, ?_⟩
  · rw [if_neg (by omega), if_neg (by omega), if_neg (by omega), if_neg (by omega)]
  · rw [if_neg (by omega), if_neg (by omega), if_neg (by omega), if_neg (by omega)]
  · rw [if_neg (by omega), if_neg (by omega), if_neg (by omega), if_pos (by omega)]
  · rw [if_neg (by omega), if_neg (by omega), if_neg (by omega), if_neg (by omega)]
  · rw [if_neg (by omega), if_neg (by omega), if_pos rfl]
  · rw [if_pos rfl]
  · rw [if_neg (by omega), if_pos rfl]
theorem st_bend {x : Int32} (hx : (w = 2 ∧ x = 1) ∨ (w = 3 ∧ x = 0)) (hT : TT M N) (ht : rd N 135 13 = 2) (h : BX (row 137 N) M N) : R2 (mX4_readStatement_b32v1 2 13 w M) (cal (mX7_bendStatement 135 x N) (fun q r => chk (isB r) (KK q r))) SRel := by
  unfold mX4_readStatement_b32v1 mX7_bendStatement
  simp only [cal_ite, cal_cap, cal_cal, cal_chk, cal_some, cal_bnd]
  have lc : rd M 13 0 = rd N 137 1 := h.pr.lc
  have lb : 0 ≤ (rd N 137 1).toInt ∧ (rd N 137 1).toInt ≤ 9 := h.pr.lb
  have nn : (rd N 137 0).toInt = if (rd N 137 1).toInt = 0 then 0 else (rd N 137 1).toInt - 1 := h.pr.nn
  have cw : cntW w = 1 := by rcases hx with ⟨rfl, _⟩ | ⟨rfl, _⟩ <;> rfl
  refine R2.cl (eow_bend (by omega) (by rw [lc]; exact lb)) (fun e he => R2.kr (fun _ => R2.ir (fun c => ?_) (fun c => ?_)))
  · have c : (rd N 137 1).toInt = 0 := i_eq.mp c
    rw [lc] at he
    have he : e = 4 := by
      rcases he with ⟨_, q⟩ | ⟨q, _⟩ | ⟨q, _⟩
      · exact q
      · omega
      · omega
    exact word_err (by rw [he]; decide) hT ht he
  · have c : ¬ (rd N 137 1).toInt = 0 := i_ne c
    rw [if_neg c] at nn
    refine R2.kr (fun _ => R2.br (fun b eb => R2.ir (fun c8 => ?_) (fun c8 => ?_)))
    · have eb : b = rd N 137 0 := eb
      have c8 := congrArg Int32.toInt c8
      rw [eb, show ((8 : Int32)).toInt = 8 from rfl] at c8
      rw [lc] at he
      have he : e = 5 := by
        rcases he with ⟨q, _⟩ | ⟨_, q⟩ | ⟨q, _⟩
        · omega
        · exact q
        · omega
      exact word_err (by rw [he]; decide) hT ht he
    · have eb : b = rd N 137 0 := eb
      have c8 := i_ne c8
      rw [eb, show ((8 : Int32)).toInt = 8 from rfl] at c8
      rw [lc] at he
      have he : e = 0 := by
        rcases he with ⟨q, _⟩ | ⟨q, _⟩ | ⟨_, q⟩
        · omega
        · omega
        · exact q
      subst he
      obtain ⟨p, hp⟩ : ∃ p : Nat, (rd N 137 0).toInt = (p : Int) := ⟨(rd N 137 0).toInt.toNat, by omega⟩
      rw [← eb] at hp
      have l1 : (rd N 137 1).toInt = (p : Int) + 1 := by rw [← eb] at nn; omega
      have n1 : ((1 : Int32)).toInt = 1 := rfl
      have n2 : ((2 : Int32)).toInt = 2 := rfl
      have n11 : ((11 : Int32)).toInt = 11 := rfl
      have a1 := i_add (a := (2 : Int32)) (b := b) (by omega) (by omega)
      have a2 := i_add (a := (2 : Int32) + b) (b := 1) (by omega) (by omega)
      have a3 := i_add (a := (11 : Int32)) (b := b) (by omega) (by omega)
      have a4 := i_add (a := b) (b := 1) (by omega) (by omega)
      have a5 := i_add (a := rd N 137 1) (b := 1) (by omega) (by omega)
      unfold mX4_readStatement_b51v1
      generalize (5000 : Nat) = n0
      have hF0 : (wF0.getD w 0).toInt = 1 ∧ (wF1.getD w 0).toInt = 9999 := by rcases hx with ⟨rfl, _⟩ | ⟨rfl, _⟩ <;> decide
      refine numX (w := w) (i := 0) (j := 3 + p) (by omega) (by rw [cw]; decide) h (fun M' N' hB _ hv => ?_) (by omega) (fun M1 => Pc.i (fun _ => kk_0 M1) (fun q => absurd rfl q)) (fun n1 M1 N1 v1 b1 r1 s1 t1 w1 => ?_)
      · rw [alw0, hv, hF0.1, hF0.2]; exact ⟨fun h => h.1, fun h => ⟨h, fun q => by omega⟩⟩
      refine adv_1 ?_
      refine step_z (by omega) (by rw [cw]; decide) (by decide) (fun n2 M2 e2 => step_z (by omega) (by rw [cw]; decide) (by decide) (fun n3 M3 e3 => ?_))
      have b3 : BX (row 137 N) M3 N1 := by rw [e3, e2]; exact b1.put3.put3
      have z0 : rd M3 3 0 = v1 := by rw [e3, rd_wj (by decide), e2, rd_wj (by decide)]; exact s1
      refine endX b3 (fun M4 N4 hT4 b4 s4 w4 => ?_)
      have l4 : (rd M4 13 0).toInt = ((p + 1 : Nat) : Int) := by rw [b4.pr.lc]; show (rd N 137 1).toInt = _; omega
      have fin : R2 (cap (mX4_errorIfNot 2 (4 : Int32) (0 : Int32) M4) (fun r42 => mX4_readStatement_b131v1 2 13 w r42 M4)) (cal (mX7_bendStatement_b74 135 ((11 : Int32) + b) x N4) (fun q r => chk (isB r) (KK q r))) SRel := by
        unfold mX7_bendStatement_b74
        simp only [cal_ite, cal_cap, cal_cal, cal_chk, cal_some, cal_bnd]
        refine R2.kr (fun _ => R2.br (fun N5 e5 => R2.kr (fun _ => R2.kr (fun _ => R2.br (fun N6 e6 => R2.kr (fun _ => R2.kr (fun _ => R2.br (fun N7 e7 => ?_))))))))
        rw [i_clamp, show ((11 : Int32) + b).toInt.toNat = 11 + p by omega] at e5
        have e5 : N5 = wr N4 137 (11 + p) x := e5
        have e6 : N6 = wr N5 137 0 (rd N5 137 0 + 1) := e6
        have e7 : N7 = wr N6 137 1 (rd N6 137 1 + 1) := e7
        have q4 : ∀ j, j ≠ 3 + p → rd N4 137 j = rd N 137 j := fun j hj => by
          have := congrFun (w4.trans w1) j
          rw [upf_n hj] at this; exact this
        have v0 : rd N5 137 0 = b := by rw [e5, rd_wj (by omega), q4 0 (by omega), eb]
        have v1' : rd N6 137 1 = rd N 137 1 := by rw [e6, rd_wj (by decide), e5, rd_wj (by omega), q4 1 (by omega)]
        rw [v0] at e6
        rw [v1'] at e7
        have g7 : row 137 N7 = upf (upf (upf (upf (row 137 N) (3 + p) v1) (11 + p) x) 0 (b + 1)) 1 (rd N 137 1 + 1) := by rw [e7, row_wr, e6, row_wr, e5, row_wr, w4, w1]
        refine fin2 (N0 := N7) hT4 b4 (by rw [e7, e6, e5]; exact k137 (k137 (k137 KS.rf))) (Pc.mono (acc_leg (m := p + 1) (by omega) l4 (by omega)) (fun q hq => ?_))
        have u0 := b4.pr.uz
        have ub := b4.pr.ub
        have n0' : (row 137 N 0).toInt.toNat = p := by show (rd N 137 0).toInt.toNat = p; rw [← eb]; omega
        rw [n0'] at u0
        have sh : rd M4 13 0 - 1 = Int32.ofNat p := by
          rw [i_eq, i_sub (by omega) (by omega), t_of (by omega), l4]; show ((p + 1 : Nat) : Int) - 1 = _; omega
        have eu : rd M4 13 2 = Int32.ofNat (rd M4 13 2).toInt.toNat := o_of ub.1
        have up4 : ∀ b' : Nat, b' < p → (row 137 N (11 + b') = if (rd M4 13 2).toInt.toNat.testBit b' then 1 else 0) := fun b' hb' => b4.pr.up b' (by show (b' : Int) < (rd N 137 0).toInt; rw [← eb]; omega)
        have bo := ub_or u0 (by omega)
        obtain ⟨hg, hl, hv, hb0, hb1, w1, w0⟩ := up4_at (by omega) (row 137 N7) g7
        have tz : (rd M4 13 2).toInt.toNat.testBit p = false := Nat.testBit_lt_two_pow u0
        refine ⟨?_, fun k j hk => ?_⟩
        · refine PR.mem (M := wr (wr (wr M4 14 (p + 1) (rd M4 3 0)) 13 2 (if 0 < p + 1 ∧ w = 2 then rd M4 13 2 ||| ((1 : Int32) <<< ((rd M4 13 0 - 1) &&& 31)) else rd M4 13 2)) 13 0 (rd M4 13 0 + 1)) ?_ (fun c j _ _ => hq c j)
          have hc : (rd M4 13 0 + 1).toInt = ((p + 1 : Nat) : Int) + 1 := by rw [i_add (by omega) (by omega), l4]; rfl
          have g1 : row 137 N7 1 = rd M4 13 0 + 1 := by
            rw [w1, b4.pr.lc]
          have g0 : (row 137 N7 0).toInt = ((p + 1 : Nat) : Int) := by
            rw [w0]; omega
          rw [s4, z0]
          rcases hx with ⟨rfl, rfl⟩ | ⟨rfl, rfl⟩
          · rw [if_pos ⟨by omega, rfl⟩, sh]
            rw [eu]
            refine b4.pr.legs (n := p + 1) (by show (rd N 137 1).toInt = _; omega) (by omega) hc hg g1 g0 hl hv ⟨by rw [bo.1]; omega, by rw [bo.1]; omega⟩ (fun b' hb' => ?_) ?_
            · rw [bo.1, show ((((rd M4 13 2).toInt.toNat ||| 2 ^ p : Nat) : Int)).toNat = ((rd M4 13 2).toInt.toNat ||| 2 ^ p) by omega, Nat.testBit_or, Nat.testBit_two_pow]
              by_cases q : b' = p
              · subst q
                rw [hb1]; simp
              · rw [hb0 b' (by omega), up4 b' (by omega)]
                have : decide (p = b') = false := decide_eq_false (by omega)
                rw [this, Bool.or_false]
            · rw [bo.1, show ((((rd M4 13 2).toInt.toNat ||| 2 ^ p : Nat) : Int)).toNat = ((rd M4 13 2).toInt.toNat ||| 2 ^ p) by omega]; exact bo.2.1
          · rw [if_neg (by omega)]
            refine b4.pr.legs (n := p + 1) (by show (rd N 137 1).toInt = _; omega) (by omega) hc hg g1 g0 hl hv ub (fun b' hb' => ?_) ?_
            · by_cases q : b' = p
              · subst q
                rw [hb1, tz]; rfl
              · rw [hb0 b' (by omega), up4 b' (by omega)]
            · have : 2 ^ p < 2 ^ (p + 1) := Nat.pow_lt_pow_right (by decide) (Nat.lt_succ_self p)
              omega
        · rw [hq, rd_eq, rd_eq, rd_eq, if_neg (by omega), if_neg (by omega), if_neg (by omega)]
      refine R2.ir (fun cx => ?_) (fun cx => ?_)
      · subst cx
        have := fin
        unfold mX7_bendStatement_b74 at this ⊢
        simp only [cal_ite, cal_cap, cal_cal, cal_chk, cal_some, cal_bnd] at this ⊢
        exact this
      · have ex : x = 1 := by
          rcases hx with ⟨_, q⟩ | ⟨_, q⟩
          · exact q
          · exact absurd q cx
        subst ex
        have := fin
        unfold mX7_bendStatement_b74 at this ⊢
        simp only [cal_ite, cal_cap, cal_cal, cal_chk, cal_some, cal_bnd] at this ⊢
        exact this
end LS
