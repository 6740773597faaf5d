/-! the finished profile, what is not there, the first fold -/
section FIx
variable {M : Mem} {nb l0 c1 c2 c3 c4 : Nat} {its : List (Bool × Nat)} {b0 : Nat}
theorem ZZ.bits (h : ZZ nb l0 its c1 c2 c3 c4 M) : rd M 5 2 = Int32.ofNat (ubs its 1 0) ∧ ubs its 1 0 < 256 ∧ ∀ b, b < nb → (ubs its 1 0).testBit b = (its.getD b (false, 0)).1 := by
  obtain ⟨⟨p1, -, hn, h1, h5, -⟩, -⟩ := h
  obtain ⟨a1, -, a3⟩ := ubs_ok its 1 0 (by omega) (by omega) (by decide)
  refine ⟨p1.2.2.1, ?_, fun b hb => ?_⟩
  · have : 2 ^ (1 - 1 + its.length) ≤ 2 ^ 8 := Nat.pow_le_pow_right (by decide) (by omega)
    omega
  · have := a3 b (by omega)
    rw [show 1 - 1 + b = b by omega] at this
    exact this
theorem e_isUp (h : ZZ nb l0 its c1 c2 c3 c4 M) {b : Nat} (hb : b < nb) : mX6_isUp 0 (Int32.ofNat b) M = some (M, Sum.inl (M.1 138 b)) := by
  obtain ⟨hL, hl, h5, h1⟩ := h.ln
  obtain ⟨u1, u2, u3⟩ := h.bits
  have hq := h.2.1.2.2.2.2 b (by rw [h.1.2.2.1]; exact hb)
  have hf := f_has0 (ubs its 1 0) u2 b (by omega)
  have hg : mX1_goesUp 5 (Int32.ofNat b) M = some (M.1 138 b) := by
    unfold mX1_goesUp
    rw [u1, hq, ← u3 b hb]
    cases ht : (ubs its 1 0).testBit b with
    | false => rw [ite_p (hf.mpr ht)]; rfl
    | true => rw [ite_n (fun z => by rw [hf.mp z] at ht; cases ht)]; rfl
  unfold mX6_isUp
  rw [e_reqBend h.nm.1 hl h5 hb, calx_i, hg, cap_e, chk_t]
  rw [hq]
  cases (its.getD b (false, 0)).1 <;> rfl
/-- directions, places of the finished profile -/
def dF (up : Nat → Bool) : Nat → Nat
  | 0 => 1
  | j + 1 => (dF up j + (if up j then 3 else 1)) % 4
def xF (up : Nat → Bool) (len : Nat → Int32) : Nat → Int32
  | 0 => 0
  | j + 1 => xF up len j + goX (Int32.ofNat (dF up j)) (len j)
def yF (up : Nat → Bool) (len : Nat → Int32) : Nat → Int32
  | 0 => 0
  | j + 1 => yF up len j + goY (Int32.ofNat (dF up j)) (len j)
theorem dF_lt {up : Nat → Bool} : ∀ j, dF up j < 4
  | 0 => by show 1 < 4; omega
  | j + 1 => Nat.mod_lt _ (by decide)
abbrev upF (its : List (Bool × Nat)) : Nat → Bool := fun b => (its.getD b (false, 0)).1
theorem p_layF (h : ZZ nb l0 its c1 c2 c3 c4 M) : Pc (mX2_layFinished 103 5 M) (fun q => (∀ j, j ≤ nb → rd q.1 104 j = xF (upF its) (lnF (LL l0 its)) (j + 1) ∧ rd q.1 105 j = yF (upF its) (lnF (LL l0 its)) (j + 1)) ∧ KS (SPs 103) M q.1) := by
  obtain ⟨hL, hl, h5, h1⟩ := h.ln
  obtain ⟨u1, u2, u3⟩ := h.bits
  have hN := h.nm
  unfold mX2_layFinished
  refine Pc.b (fun M1 e1 => ?_)
  have k1 : KS (SPs 103) M M1 := by rw [e1]; exact KS.rf.wr (Or.inr ⟨rfl, by omega, by omega⟩)
  have P1 := hN.1.ks k1
  have g6 : rd M1 103 6 = Int32.ofNat (LL l0 its).length := by rw [e1, rd_we]; exact hN.1.1
  have gu : rd M1 5 2 = Int32.ofNat (ubs its 1 0) := (k1 5 2 (fun q => by rcases q with q | q <;> omega)).trans u1
  unfold mX1_allBends
  rw [e_bc P1 hl h5, cap_e, f_full nb (by omega), cap_e, gu]
  have hF : Fit ((1 : Int32)).toInt (LL l0 its).length (xF (upF its) (lnF (LL l0 its))) (yF (upF its) (lnF (LL l0 its))) (dF (upF its)) (lnF (LL l0 its)) (upF its) (2 ^ nb - 1) nb 3 := by
    intro j j' e hj hj'
    have e : j' = j + 1 := by have : ((1 : Int32)).toInt = 1 := rfl; omega
    subst e
    refine ⟨rfl, rfl, ?_⟩
    have e1 : (if ((1 : Int32)).toInt = 1 then (j : Int) else (j : Int) - 1) = (j : Int) := if_pos rfl
    have hb : 0 ≤ (j : Int) ∧ (j : Int) < (nb : Int) ∧ (2 ^ nb - 1).testBit (j : Int).toNat = true := ⟨by omega, by omega, by rw [Nat.testBit_two_pow_sub_one]; exact decide_eq_true (by omega)⟩
    rw [e1]
    unfold turnS
    rw [if_pos hb]
    rfl
  have hW : WIs 103 5 (LL l0 its).length (lnF (LL l0 its)) M1 := ⟨g6, P1.2⟩
  have r := wk_l (k := 103) (k1 := 5) (up := upF its) (n := nb) (a := 2 ^ nb - 1) (t := 3) (x7 := Int32.ofNat (ubs its 1 0)) (s := (1 : Int32)) (by omega) (Or.inl rfl) (by have := Nat.two_pow_pos nb; omega) (by omega) (by decide) (by decide) (fun b hb => by show _ ↔ (its.getD b (false, 0)).1 = false; rw [← u3 b hb]; exact f_has0 _ u2 b (by omega)) (by omega) hF dF_lt 5000 (0 : Int32) 1 0 0 M1 hW (by decide) (fun z => absurd z (by decide)) (fun _ => by decide) (fun _ _ => ⟨rfl, rfl, rfl⟩)
  refine Pc.m r (fun M8 _ ⟨r1, r2, _⟩ => Pc.ok ⟨fun j hj => ?_, k1.trans (pl_sp r1)⟩)
  obtain ⟨a1, a2, -⟩ := r2 j (by omega) (by unfold vis; exact Eq.mpr (if_pos (show ((1 : Int32)).toInt = 1 from rfl)) (show (0 : Int) ≤ (j : Int) by omega))
  exact ⟨a1, a2⟩
theorem p_finC (h : ZZ nb l0 its c1 c2 c3 c4 M) {j w : Nat} (hj : j ≤ nb) (hw : w < 2) : Pc (mX6_finishedCorner 0 (Int32.ofNat j) (Int32.ofNat w) M) (fun q => q.2 = Sum.inl (if w = 0 then xF (upF its) (lnF (LL l0 its)) (j + 1) else yF (upF its) (lnF (LL l0 its)) (j + 1)) ∧ KS (SPs 103) M q.1) := by
  obtain ⟨hL, hl, h5, h1⟩ := h.ln
  unfold mX6_finishedCorner
  rw [e_reqLeg h.nm.1 hl h5 hj, calx_i, e_reqCh hw, calx_i]
  refine Pc.m (p_layF h) (fun M11 _ ⟨l11, k11⟩ => ?_)
  obtain ⟨q1, q2⟩ := l11 j hj
  have hw2 : w = 0 ∨ w = 1 := by omega
  rcases hw2 with rfl | rfl
  · refine Pc.i (fun _ => Pc.k (fun _ => Pc.ok ⟨?_, k11⟩)) (fun z => absurd rfl z)
    rw [c_of (by omega), if_pos rfl]; exact congrArg Sum.inl q1
  · refine Pc.i (fun z => absurd z (by decide)) (fun _ => Pc.k (fun _ => Pc.ok ⟨?_, k11⟩))
    rw [c_of (by omega), if_neg (by decide)]; exact congrArg Sum.inl q2
/-- the law's own direction -/
def dxF (d : Nat) : Int32 := if d = 1 then 1 else if d = 3 then -1 else 0
def dyF (d : Nat) : Int32 := if d = 0 then 1 else if d = 2 then -1 else 0
theorem m1_of {v : Nat} (h : v < 10000) : (1 : Int32) * Int32.ofNat v = Int32.ofNat v ∧ (-1 : Int32) * Int32.ofNat v = -(Int32.ofNat v) ∧ (0 : Int32) * Int32.ofNat v = 0 := by
  have tv : (Int32.ofNat v).toInt = (v : Int) := t_of (by omega)
  refine ⟨?_, ?_, ?_⟩
  · rw [i_eq, i_mulc (c := 1) rfl (by rw [tv]; omega) (by rw [tv]; omega)]; omega
  · rw [i_eq, i_mulc (c := -1) rfl (by rw [tv]; omega) (by rw [tv]; omega), neg_of h, tv]; omega
  · rw [i_eq, i_mulc (c := 0) rfl (by rw [tv]; omega) (by rw [tv]; omega)]; show (0 : Int) * _ = 0; omega
theorem dgo {d v : Nat} (hd : d < 4) (h : v < 10000) : dxF d * Int32.ofNat v = goX (Int32.ofNat d) (Int32.ofNat v) ∧ dyF d * Int32.ofNat v = goY (Int32.ofNat d) (Int32.ofNat v) := by
  obtain ⟨m1, m2, m3⟩ := m1_of h
  have h4 : d = 0 ∨ d = 1 ∨ d = 2 ∨ d = 3 := by omega
  rcases h4 with rfl | rfl | rfl | rfl
  · exact ⟨m3, m1⟩
  · exact ⟨m1, m3⟩
  · exact ⟨m3, m2⟩
  · exact ⟨m2, m3⟩
theorem dturn : ∀ d, d < 4 → (dxF ((d + 3) % 4) = -(dyF d) ∧ dyF ((d + 3) % 4) = dxF d) ∧ (dxF ((d + 1) % 4) = dyF d ∧ dyF ((d + 1) % 4) = -(dxF d)) := by decide +kernel
theorem e_fin_l (b0 : Nat) : ∀ (n j : Nat) (M : Mem), ZZ nb l0 its c1 c2 c3 c4 M → j ≤ nb + 1 → nb + 1 - j < n → ∃ M', mL_isFinished_l13 135 b0 0 n (xF (upF its) (lnF (LL l0 its)) j) (yF (upF its) (lnF (LL l0 its)) j) (dxF (dF (upF its) j)) (dyF (dF (upF its) j)) (Int32.ofNat j) M = some (M', Sum.inl 1) ∧ ZZ nb l0 its c1 c2 c3 c4 M' := by
  intro n
  induction n with
  | zero => intro j M _ _ h0; exact absurd h0 (by omega)
  | succ n IH =>
    intro j M h hj hn
    obtain ⟨hL, hl, h5, h1⟩ := h.ln
    obtain ⟨u2, -, -⟩ := Zup h
    show ∃ M', mL_isFinished_b13 135 b0 0 (mL_isFinished_l13 135 b0 0 n) (xF (upF its) (lnF (LL l0 its)) j) (yF (upF its) (lnF (LL l0 its)) j) (dxF (dF (upF its) j)) (dyF (dF (upF its) j)) (Int32.ofNat j) M = some (M', Sum.inl 1) ∧ _
    unfold mL_isFinished_b13
    rw [u2]
    by_cases e : j = nb + 1
    · exact ⟨M, by rw [ite_p (i_lt.mpr (by rw [t_of (by omega), t_of (by omega)]; omega))], h⟩
    · have hjn : j ≤ nb := by omega
      have hv := hL.at (j := j) (by omega)
      have hlen := h.2.1.2.2.2.1 j (by rw [h.1.2.2.1]; exact hjn)
      have hd := dF_lt (up := upF its) j
      obtain ⟨d1, d2⟩ := dgo (v := (LL l0 its).getD j 0) hd (by omega)
      obtain ⟨M1, q1, z1⟩ := zx h (sX6_finishedCorner (x1 := Int32.ofNat j) (x2 := Int32.ofNat 0) h.2.2) (p_finC h hjn (w := 0) (by decide))
      obtain ⟨M2, q2, z2⟩ := zx z1 (sX6_finishedCorner (x1 := Int32.ofNat j) (x2 := Int32.ofNat 1) z1.2.2) (p_finC z1 hjn (w := 1) (by decide))
      have q1' : mX6_finishedCorner 0 (Int32.ofNat j) (0 : Int32) M = some (M1, Sum.inl (xF (upF its) (lnF (LL l0 its)) (j + 1))) := q1
      have q2' : mX6_finishedCorner 0 (Int32.ofNat j) (1 : Int32) M1 = some (M2, Sum.inl (yF (upF its) (lnF (LL l0 its)) (j + 1))) := q2
      obtain ⟨u2', -, -⟩ := Zup z2
      have ej : Int32.ofNat j + (1 : Int32) = Int32.ofNat (j + 1) := o_add (b := 1) (by omega)
      obtain ⟨M3, q3, z3⟩ := IH (j + 1) M2 z2 (by omega) (by omega)
      rw [ite_n (fun q => by have := i_lt.mp q; rw [t_of (by omega), t_of (by omega)] at this; omega), chk_t (o_ok (by omega) (by omega)), bnd_e, chk_t (o_ok (by omega) (by omega)), bnd_e, c_of (by omega), show rd M (135 + 2) j = Int32.ofNat ((LL l0 its).getD j 0) from hlen, d1, d2, show xF (upF its) (lnF (LL l0 its)) j + goX (Int32.ofNat (dF (upF its) j)) (Int32.ofNat ((LL l0 its).getD j 0)) = xF (upF its) (lnF (LL l0 its)) (j + 1) from rfl, show yF (upF its) (lnF (LL l0 its)) j + goY (Int32.ofNat (dF (upF its) j)) (Int32.ofNat ((LL l0 its).getD j 0)) = yF (upF its) (lnF (LL l0 its)) (j + 1) from rfl, q1', calx_i, ite_p rfl, q2', calx_i, ite_p rfl, u2']
      by_cases c : j = nb
      · rw [ite_p (i_le.mpr (by rw [t_of (by omega), t_of (by omega)]; omega))]
        unfold mL_isFinished_b125
        rw [bnd_e, ej]
        -- behind the last leg the direction is of no matter
        obtain ⟨n, rfl⟩ : ∃ n', n = n' + 1 := ⟨n - 1, by omega⟩
        refine ⟨M2, ?_, z2⟩
        show mL_isFinished_b13 135 b0 0 (mL_isFinished_l13 135 b0 0 n) _ _ _ _ (Int32.ofNat (j + 1)) M2 = _
        unfold mL_isFinished_b13
        rw [u2', ite_p (i_lt.mpr (by rw [t_of (by omega), t_of (by omega)]; omega))]
      · have hup := z2.2.1.2.2.2.2 j (by rw [h.1.2.2.1]; omega)
        obtain ⟨⟨a1, a2⟩, ⟨a3, a4⟩⟩ := dturn _ hd
        refine ⟨M3, ?_, z3⟩
        rw [ite_n (fun q => by have := i_le.mp q; rw [t_of (by omega), t_of (by omega)] at this; omega), chk_t (o_ok (by omega) (by omega))]
        unfold mL_isFinished_b103 mL_isFinished_b123 mL_isFinished_b125
        rw [c_of (by omega), show rd M2 (135 + 3) j = _ from hup]
        cases ht : (its.getD j (false, 0)).1 with
        | false =>
          have ed : dF (upF its) (j + 1) = (dF (upF its) j + 1) % 4 := by
            show (dF (upF its) j + (if upF its j then 3 else 1)) % 4 = _
            rw [show upF its j = false from ht]; rfl
          rw [ed, a3, a4] at q3
          rw [ite_p (by decide), chk_t (o_ok (by omega) (by omega)), ite_p (by decide), bnd_e, ej]
          exact q3
        | true =>
          have ed : dF (upF its) (j + 1) = (dF (upF its) j + 3) % 4 := by
            show (dF (upF its) j + (if upF its j then 3 else 1)) % 4 = _
            rw [show upF its j = true from ht]; rfl
          rw [ed, a1, a2] at q3
          rw [ite_n (by decide), chk_t (o_ok (by omega) (by omega)), ite_n (by decide), bnd_e, ej]
          exact q3
theorem e_isFinished (h : ZZ nb l0 its c1 c2 c3 c4 M) (b0 : Nat) : ∃ M', mL_isFinished 135 b0 0 M = some (M', Sum.inl 1) ∧ ZZ nb l0 its c1 c2 c3 c4 M' := by
  have h5 := h.ln.2.2.1
  exact e_fin_l b0 5000 0 M h (by omega) (by omega)
theorem e_isNoBend (h : ZZ nb l0 its c1 c2 c3 c4 M) : mL_isNoBend 0 (Int32.ofNat nb) M = some (M, Sum.inl 1) := by
  obtain ⟨hL, hl, h5, h1⟩ := h.ln
  have e : mX6_requireBend 0 (Int32.ofNat nb) M = some (M, Sum.inr 1) := by
    unfold mX6_requireBend
    rw [ite_n (fun q => by have := i_lt.mp q; rw [t_of (by omega), Int32.toInt_zero] at this; omega), e_bc h.nm.1 hl h5, cap_e, ite_p (i_le.mpr (Int.le_refl _))]
    rfl
  unfold mL_isNoBend mX6_gauge mX6_requireStep
  rw [e, calx_r, calx_r, calt_r, ite_p rfl]
theorem e_isNoSide (h : ZZ nb l0 its c1 c2 c3 c4 M) : mL_isNoSide 0 M = some (M, Sum.inl 1) := by
  obtain ⟨hL, hl, h5, h1⟩ := h.ln
  have e : mX6_requireBend 0 (0 : Int32) M = some (M, Sum.inl ()) := e_reqBend (b := 0) h.nm.1 hl h5 (by omega)
  have e2 : mX6_requireChoice (2 : Int32) (1 : Int32) M = some (M, Sum.inr 0) := rfl
  unfold mL_isNoSide mX6_reason mX6_requireStep
  rw [e, calx_i, e2, calx_r, calx_r, calt_r, ite_p rfl]
theorem p_fold (h : ZZ nb l0 its c1 c2 c3 c4 M) : Pc (mX6_fold 0 (0 : Int32) (0 : Int32) M) (fun q => q.2 = if rsn (LL l0 its) (100 * c3) (500 + 100 * c4) 0 0 = 0 then Sum.inl 0 else Sum.inr 2) := by
  obtain ⟨hL, hl, h5, h1⟩ := h.ln
  have g3 := h.1.2.2.2.2.2.2.2.2.1
  have g4 := h.1.2.2.2.2.2.2.2.2.2
  have hN := h.nm
  have e : mX6_requireStep 0 (0 : Int32) (0 : Int32) M = some (M, Sum.inl ()) := e_reqStep (b := 0) (s := 0) hN.1 hl h5 (by omega) (by decide)
  have ec : ((2 : Int32) * (0 : Int32)) + (0 : Int32) = Int32.ofNat (2 * 0 + 0) := rfl
  unfold mX6_fold mX6_reasonNow
  rw [e, calx_i, hN.2.1, ec]
  refine Pc.m (Q := fun q => q.2 = Int32.ofNat (rsn (LL l0 its) (100 * c3) (500 + 100 * c4) 0 0) ∧ KS (SPs 103) M q.1) (Pc.m (p_reasonFor (b := 0) (s := 0) hL hl (by omega) (by decide) (by omega) (by omega) hN) (fun M3 r hq => Pc.ok hq)) (fun M7 r ⟨er, k7⟩ => ?_)
  have er : r = Int32.ofNat (rsn (LL l0 its) (100 * c3) (500 + 100 * c4) 0 0) := er
  subst er
  have hrb : rsn (LL l0 its) (100 * c3) (500 + 100 * c4) 0 0 < 10 := rsn_b
  have hz : Int32.ofNat (rsn (LL l0 its) (100 * c3) (500 + 100 * c4) 0 0) = 0 ↔ rsn (LL l0 its) (100 * c3) (500 + 100 * c4) 0 0 = 0 := i_of (y := 0) (by omega) (by omega)
  refine Pc.i (fun z => ?_) (fun z => Pc.ok ?_)
  · rw [if_pos (hz.mp z)]
    unfold mX6_makeStep
    refine Pc.m (Q := fun q => q.2 = 0) (Pc.m (p_costNow (b := 0) (s := 0) hL hl (by omega) (by decide) (hN.ks k7)) (fun M3 r2 ⟨e2, _⟩ => Pc.m (Pc.self _) (fun M6 _ _ => Pc.m (Pc.self _) (fun M9 _ _ => Pc.m (Pc.self _) (fun M12 _ _ => Pc.ok e2))))) (fun M11 r10 e10 => Pc.ok (congrArg Sum.inl e10))
  · rw [if_neg (fun q => z (hz.mpr q))]
theorem e_isNoStep (h : ZZ nb l0 its c1 c2 c3 c4 M) (b0 : Nat) : ∃ M', mL_isNoStep 0 135 b0 M = some (M', Sum.inl 1) := by
  obtain ⟨hL, hl, h5, h1⟩ := h.ln
  obtain ⟨u2, u7, u8⟩ := Zup h
  have g3 := h.1.2.2.2.2.2.2.2.2.1
  have g4 := h.1.2.2.2.2.2.2.2.2.2
  have hni := h.1.2.2.1
  have hlen := h.2.1.2.2.2.1
  have v1 := hL.at (j := 1) (by omega)
  have v0 := hL.at (j := 0) (by omega)
  obtain ⟨⟨M', r⟩, e, -, -⟩ := sX6_fold (x1 := (0 : Int32)) (x2 := (0 : Int32)) h.2.2
  have hr := p_fold h _ e
  have hb0 : bkR (LL l0 its) 0 0 = (LL l0 its).getD 0 0 := by
    unfold bkR
    rw [if_pos rfl, ps_s (by omega), ps_0, Nat.zero_add]
  have er : rsn (LL l0 its) (100 * c3) (500 + 100 * c4) 0 0 = if (LL l0 its).getD 1 0 < 100 * c3 then 2 else if 500 + 100 * c4 < (LL l0 its).getD 0 0 then 3 else 0 := by unfold rsn; rw [if_pos rfl, hb0]
  have r1 : rd M (135 + 2) ((1 : Int32)).toNatClampNeg = Int32.ofNat ((LL l0 its).getD 1 0) := hlen 1 (by omega)
  have r0 : rd M (135 + 2) ((0 : Int32)).toNatClampNeg = Int32.ofNat ((LL l0 its).getD 0 0) := hlen 0 (by omega)
  have hr : r = if rsn (LL l0 its) (100 * c3) (500 + 100 * c4) 0 0 = 0 then Sum.inl 0 else Sum.inr 2 := hr
  have no : rsn (LL l0 its) (100 * c3) (500 + 100 * c4) 0 0 ≠ 0 → mL_isNoStep_b30 0 135 b0 M = some (M', Sum.inl 1) := by
    intro z
    rw [if_neg z] at hr
    subst hr
    unfold mL_isNoStep_b30 mL_isNoStep_b31
    rw [e, calt_r, ite_p rfl, ite_p rfl]
  refine ⟨M', ?_⟩
  unfold mL_isNoStep
  rw [chk_t (by decide), r1, u7]
  by_cases k1 : (LL l0 its).getD 1 0 < 100 * c3
  · rw [ite_p (i_lt.mpr (by rw [t_of (by omega), t_of (by omega)]; omega))]
    exact no (by rw [er, if_pos k1]; decide)
  · rw [ite_n (fun q => by have := i_lt.mp q; rw [t_of (by omega), t_of (by omega)] at this; omega), chk_t (by decide), r0, u8]
    by_cases k2 : 500 + 100 * c4 < (LL l0 its).getD 0 0
    · rw [ite_p (i_lt.mpr (by rw [t_of (by omega), t_of (by omega)]; omega))]
      exact no (by rw [er, if_neg k1, if_pos k2]; decide)
    · rw [ite_n (fun q => by have := i_lt.mp q; rw [t_of (by omega), t_of (by omega)] at this; omega)]
      rw [er, if_neg k1, if_neg k2, if_pos rfl] at hr
      subst hr
      unfold mL_isNoStep_b31
      rw [e, calt_i, ite_p rfl, ite_n (by decide)]
/-- all that is owed -/
theorem z_ok (b0 : Nat) (nb l0 : Nat) (its : List (Bool × Nat)) (c1 c2 c3 c4 : Nat) : Zok b0 nb (ZZ nb l0 its c1 c2 c3 c4) := by
  refine ⟨fun M h => ?_, fun M b h hb => ⟨M, e_isUp h hb, h⟩, fun M b q h hb hq => ?_, fun M h => e_isFinished h b0, fun M h => ⟨M, e_isNoBend h, h⟩, fun M h => ⟨M, e_isNoSide h, h⟩, fun M h => e_isNoStep h b0⟩
  · obtain ⟨hL, hl, h5, h1⟩ := h.ln
    obtain ⟨p1, p2, -⟩ := h.1
    refine ⟨h.2.1.1, congrArg some p2, congrArg some ?_, congrArg some h.nm.2.1⟩
    rw [← hl]; exact h.nm.1.1
  · rcases hq with rfl | rfl
    · exact e_isStep (s := 0) h hb (by decide) b0
    · exact e_isStep (s := 1) h hb (by decide) b0
theorem sB_sP : sB sP = sP := by
  funext i
  show (if i = 1 then ((0 : Int), (600 : Int)) else sP i) = sP i
  by_cases e : i = 1
  · rw [if_pos e, e]; rfl
  · rw [if_neg e]
theorem As7_all (hI : Its l0 its) (g1 : c1 < 9) (g2 : c2 < 9) (g3 : c3 < 4) (g4 : c4 < 30) : As7 (t0L c1 c2 c3 c4 ++ txs l0 its) := by
  have hs : ∀ i, i < 19 → As7 (stN i) := fun i hi => (st_nat i hi).2.2
  have hb : As7 (its.flatMap bt) := fun c hc => by
    obtain ⟨q, hq, hc⟩ := List.mem_flatMap.mp hc
    have hv := hI.2 q hq
    have : As7 (bt q) := by
      unfold bt
      refine (As7.app ?_ (dg_7 (by omega))).app (hs 12 (by decide))
      split
      · exact hs 13 (by decide)
      · exact hs 14 (by decide)
    exact this c hc
  have hl := hI.1
  unfold t0L txs
  exact (((((((((hs 15 (by decide)).app (dg_7 (by omega))).app (hs 16 (by decide))).app (dg_7 (by omega))).app (hs 17 (by decide))).app (dg_7 (by omega))).app (hs 18 (by decide))).app (dg_7 (by omega))).app (hs 12 (by decide))).app ((((hs 11 (by decide)).app (dg_7 (by omega))).app (hs 12 (by decide))).app hb)
theorem num_ok : NumOk ZZ := by
  refine ⟨fun M h => ⟨MCp M, root_init (fun a _ ha => h a ha), fun a ha => MCp_o ha⟩, ?_, fun b0 nb l0 its c1 c2 c3 c4 _ => z_ok b0 nb l0 its c1 c2 c3 c4⟩
  intro M0 M1 M kt at' nb l0 c1 c2 c3 c4 its h0 hi hs hn h1 h5 hI g1 g2 g3 g4 hLS hkt hat hk1 hTb
  have hz : Zb M0 0 := fun a _ ha => h0 a ha
  have e1 : M1 = MCp M0 := (Prod.mk.inj (Option.some.inj (hi.symm.trans (root_init hz)))).1
  subst e1
  have hO1 := ok_MC hz
  have hO : OKb (fT sP) M := fun k j => by
    by_cases hk : k < 135
    · rw [show rd M k j = rd (MCp M0) k j from congrFun (hs k hk).1 j]; exact hO1 k j
    · have e : bxc (fT sP) k j = bT := by
        unfold bxc
        repeat (rw [if_neg (by omega)])
      rw [e]; exact i_rng _
  have hz1 : rd M 0 1 = 0 := by
    rw [show rd M 0 1 = rd (MCp M0) 0 1 from congrFun (hs 0 (by decide)).1 1]
    have : (MCp M0).1 0 = M0.1 0 := by
      show (if (0 : Nat) = 127 then rQ else if (0 : Nat) = 110 then rP else (ptP 119 (MBp M0)).1 0) = _
      rfl
    show (MCp M0).1 0 1 = 0
    rw [this, (h0 0 (by decide)).1]
  have hlen := t0L_len g1 g2 g3 g4
  have hIb : ∀ q ∈ its, 100 ≤ q.2 ∧ q.2 < 1000 := fun q hq => ⟨(hI.2 q hq).1, by have := (hI.2 q hq).2; omega⟩
  have htl := txs_len (l0 := l0) ⟨hI.1.1, by have := hI.1.2; omega⟩ its hIb
  generalize hu : t0L c1 c2 c3 c4 ++ txs l0 its = u at hTb ⊢
  have hul : u.length ≤ 200 := by rw [← hu, List.length_append]; omega
  have h7 : As7 u := by
    rw [← hu]
    exact As7_all hI g1 g2 g3 g4
  have hT : Ts u kt at' M := ⟨hk1, h7, hul, hTb⟩
  obtain ⟨M2, p, p1, p2, B2, k2, hO2, e2⟩ := e_feeds (by omega) (by omega) 10 0 5000 M (by rw [sB_sP]; exact hO) hT ⟨hz1, fun j hj => absurd hj (by omega)⟩ (by omega) (by omega) (by omega)
  obtain ⟨⟨M3, r⟩, e3, hd⟩ := sX6_load_ex (x1 := Int32.ofNat u.length) hO2
  obtain ⟨hr, hC, k3⟩ := ld_text (u := u) (by rw [← hu]; exact tx_sts) h7 hul hn h1 h5 hI g1 g2 g3 g4 B2 p1 p2 _ e3
  have hr : r = Sum.inl (Int32.ofNat nb) := hr
  subst hr
  have hO3 : OKb (fT (sZ sP)) M3 := by
    rcases hd with ⟨_, q, _⟩ | ⟨q, _⟩
    · cases q
    · exact q
  refine ⟨M3, ?_, hC, ?_, hO3⟩
  · unfold mL_load_ds
    refine e2.trans ?_
    rw [e3, calx_i]
  · have eL : ∀ c j, 135 ≤ c → c ≠ 1 → rd M3 c j = rd M c j := fun c j hc _ => by
      rw [k3 c j (by omega), k2 c j (fun q => by rcases q with q | q <;> omega)]
    obtain ⟨l1, l2, l3, l4, l5⟩ := hLS
    exact ⟨(eL 135 2 (by decide) (by decide)).trans l1, (eL 135 7 (by decide) (by decide)).trans l2, (eL 135 8 (by decide) (by decide)).trans l3, fun j hj => (eL 137 j (by decide) (by decide)).trans (l4 j hj), fun j hj => (eL 138 j (by decide) (by decide)).trans (l5 j hj)⟩
end FIx
