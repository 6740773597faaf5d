/-! the reference reads a text -/
def KA (M M' : Mem) : Prop := ∀ k j, ¬ (k = 135 ∧ 11 ≤ j ∧ j ≤ 16) → rd M' k j = rd M k j
def nx (M : Mem) : Int := (rd M 135 12).toInt
section PJ
variable {M M' M'' : Mem} {n m : Nat} {x1 x2 x3 v : Int32}
theorem KA.rf : KA M M := fun _ _ _ => rfl
theorem KA.trans (h : KA M M') (h' : KA M' M'') : KA M M'' := fun k j q => (h' k j q).trans (h k j q)
theorem ka_wr {j : Nat} (hj : 11 ≤ j ∧ j ≤ 16) : KA M (wr M 135 j v) := fun k i q => by
  by_cases k1 : k = 135
  · subst k1; exact rd_wj (by omega)
  · exact rd_wk k1
theorem nx_b (h : OKm gS M) : 0 ≤ nx M ∧ nx M ≤ 600 := h.std 135 12
theorem ps_start (h : OKm gS M) (hv : 0 ≤ v.toInt ∧ v.toInt ≤ 600) : OKm gS (wr M 135 11 v) := h.put (b := (0, 600)) rfl hv
theorem ps_next (h : OKm gS M) (hv : 0 ≤ v.toInt ∧ v.toInt ≤ 600) : OKm gS (wr M 135 12 v) := h.put (b := (0, 600)) rfl hv
theorem ps_tok (h : OKm gS M) : OKm gS (wr M 135 13 v) := h.put (b := bT) rfl (i_rng _)
theorem ps_val (h : OKm gS M) : OKm gS (wr M 135 14 v) := h.put (b := bT) rfl (i_rng _)
theorem sX7_byteAt (h : OKm gS M) (hx : 0 ≤ x1.toInt) : Sf (mX7_byteAt 135 x1 M) (fun r => r = -1 ∨ x1.toInt < 600) := by
  unfold mX7_byteAt
  have b : (0 : Int) ≤ (rd M 135 10).toInt ∧ (rd M 135 10).toInt ≤ 600 := h.std 135 10
  refine Sf.i (fun _ => Sf.ok (Or.inl rfl)) (fun c => ?_)
  have c := i_nle c
  exact Sf.k (ok_in hx (by omega)) (Sf.ok (Or.inr (by omega)))
theorem sX7_isLetter : Sf (mX7_isLetter x1 M) (fun r => r = 0 ∨ ¬ x1 = -1) := by
  unfold mX7_isLetter
  refine Sf.i (fun _ => Sf.ok (Or.inl rfl)) (fun c => Sf.i (fun _ => Sf.ok (Or.inl rfl)) (fun _ => Sf.ok (Or.inr (fun e => c (by rw [e]; decide)))))
theorem sX7_isDigit : Sf (mX7_isDigit x1 M) (fun r => r = 0 ∨ ¬ x1 = -1) := by
  unfold mX7_isDigit
  refine Sf.i (fun _ => Sf.ok (Or.inl rfl)) (fun c => Sf.i (fun _ => Sf.ok (Or.inl rfl)) (fun _ => Sf.ok (Or.inr (fun e => c (by rw [e]; decide)))))
theorem nx_inc (h : OKm gS M) (hc : nx M < 600) : (rd M 135 12 + 1).toInt = nx M + 1 := by
  have b := nx_b h
  have n1 : ((1 : Int32)).toInt = 1 := rfl
  show (rd M 135 12 + 1).toInt = (rd M 135 12).toInt + 1
  unfold nx at b
  rw [i_add (by omega) (by omega), n1]
/-- what reading a token gives -/
def AP (M : Mem) (q : Mem × Int32) : Prop := OKm gS q.1 ∧ KA M q.1 ∧ q.2 = 1 ∧ nx M ≤ nx q.1
theorem ad_fin1 {y : Int32} (h : OKm gS M) : Sf (mX7_advance_b230 135 y M) (fun q => AP M q ∧ rd q.1 135 13 = y) := by
  unfold mX7_advance_b230
  refine Sf.b (fun M42 e => Sf.ok ?_)
  subst e
  exact ⟨⟨ps_tok h, ka_wr (by decide), rfl, by unfold nx; rw [rd_wj (by decide)]; omega⟩, rd_we⟩
theorem ad_fin2 {y : Int32} (h : OKm gS M) : Sf (mX7_advance_b123 135 y M) (fun q => AP M q ∧ rd q.1 135 13 = y) := by
  unfold mX7_advance_b123
  refine Sf.b (fun M42 e => Sf.ok ?_)
  subst e
  exact ⟨⟨ps_tok h, ka_wr (by decide), rfl, by unfold nx; rw [rd_wj (by decide)]; omega⟩, rd_we⟩
theorem ad_letters : ∀ (fuel : Nat) (M : Mem), OKm gS M → 600 - nx M < fuel → Sf (mX7_advance_l76 135 fuel M) (fun q => AP M q ∧ rd q.1 135 13 ≠ 3) := by
  intro fuel
  induction fuel with
  | zero => intro M h hf; have := nx_b h; exfalso; omega
  | succ fuel IH =>
    intro M h hf
    show Sf (mX7_advance_b76 135 (mX7_advance_l76 135 fuel) M) _
    unfold mX7_advance_b76
    have b := nx_b h
    refine Sf.c (sX7_byteAt h (x1 := rd M 135 12) b.1) (fun r53 p53 => Sf.c sX7_isLetter (fun r56 p56 => Sf.i (fun _ => Sf.i (fun _ => Sf.mono (ad_fin2 h) (fun q hq => ⟨hq.1, by rw [hq.2]; decide⟩)) (fun _ => Sf.mono (ad_fin2 h) (fun q hq => ⟨hq.1, by rw [hq.2]; decide⟩))) (fun c => ?_)))
    have hl : nx M < 600 := p53.resolve_left (p56.resolve_left c)
    refine Sf.b (fun M62 e => ?_)
    have t := nx_inc h hl
    have h62 : OKm gS M62 := by rw [e]; exact ps_next h (by rw [t]; omega)
    have k62 : KA M M62 := by rw [e]; exact ka_wr (by decide)
    have n62 : nx M62 = nx M + 1 := by unfold nx; rw [e, rd_we]; exact t
    exact Sf.mono (IH M62 h62 (by omega)) (fun q hq => ⟨⟨hq.1.1, k62.trans hq.1.2.1, hq.1.2.2.1, by have := hq.1.2.2.2; omega⟩, hq.2⟩)
theorem ad_dig_step {fuel : Nat} (h : OKm gS M) (hl : nx M < 600) (IH : ∀ M, OKm gS M → 600 - nx M < fuel → Sf (mX7_advance_l141 135 fuel M) (AP M)) (hf : 600 - nx M < fuel + 1) {r : Int32} (hr : mX7_byteAt 135 (rd M 135 12) M = some r) : Sf (ite2 ((4 : Int32) ≤ ((rd M 135 12) - (rd M 135 11))) (mX7_advance_b195 135 (mX7_advance_l141 135 fuel) (rd M 135 14) M) (cap (mX7_byteAt 135 (rd M 135 12) M) (fun r50 => mX7_advance_b195 135 (mX7_advance_l141 135 fuel) ((((10 : Int32) * (rd M 135 14)) + r50) - (48 : Int32)) M))) (fun q => AP M q ∧ nx M < nx q.1) := by
  have b := nx_b h
  have t := nx_inc h hl
  have b195 : ∀ y : Int32, Sf (mX7_advance_b195 135 (mX7_advance_l141 135 fuel) y M) (fun q => AP M q ∧ nx M < nx q.1) := by
    intro y
    unfold mX7_advance_b195
    refine Sf.b (fun M45 e45 => Sf.b (fun M47 e47 => ?_))
    have r12 : rd M45 135 12 = rd M 135 12 := by rw [e45]; exact rd_wj (by decide)
    rw [r12] at e47
    have h45 : OKm gS M45 := by rw [e45]; exact ps_val h
    have h47 : OKm gS M47 := by rw [e47]; exact ps_next h45 (by rw [t]; omega)
    have k47 : KA M M47 := by rw [e47, e45]; exact (ka_wr (by decide)).trans (ka_wr (by decide))
    have n47 : nx M47 = nx M + 1 := by unfold nx; rw [e47, rd_we]; exact t
    exact Sf.mono (IH M47 h47 (by omega)) (fun q hq => ⟨⟨hq.1, k47.trans hq.2.1, hq.2.2.1, by have := hq.2.2.2; omega⟩, by have := hq.2.2.2; omega⟩)
  refine Sf.i (fun _ => b195 _) (fun _ => ?_)
  rw [hr]
  exact b195 _
theorem ad_digits : ∀ (fuel : Nat) (M : Mem), OKm gS M → 600 - nx M < fuel → Sf (mX7_advance_l141 135 fuel M) (AP M) := by
  intro fuel
  induction fuel with
  | zero => intro M h hf; have := nx_b h; exfalso; omega
  | succ fuel IH =>
    intro M h hf
    show Sf (mX7_advance_b141 135 (mX7_advance_l141 135 fuel) M) _
    unfold mX7_advance_b141
    have b := nx_b h
    obtain ⟨r35, e35, p35⟩ := sX7_byteAt h (x1 := rd M 135 12) b.1
    rw [e35]
    refine Sf.c (Q := fun r => r = r35) ⟨_, rfl, rfl⟩ (fun r er => ?_)
    subst er
    refine Sf.c sX7_isDigit (fun r38 p38 => Sf.i (fun _ => Sf.i (fun _ => Sf.mono (ad_fin1 h) (fun q hq => hq.1)) (fun _ => Sf.mono (ad_fin1 h) (fun q hq => hq.1))) (fun c => ?_))
    have hl : nx M < 600 := p35.resolve_left (p38.resolve_left c)
    have := ad_dig_step h hl IH hf e35
    rw [e35] at this
    exact Sf.mono this (fun q hq => hq.1)
/-- the first digit is taken -/
theorem ad_digits1 {r d : Int32} (h : OKm gS M) (hr : mX7_byteAt 135 (rd M 135 12) M = some r) (hd : mX7_isDigit r M = some d) (hd0 : ¬ d = 0) (hl : nx M < 600) : Sf (mX7_advance_l141 135 5000 M) (fun q => AP M q ∧ nx M < nx q.1) := by
  show Sf (mX7_advance_b141 135 (mX7_advance_l141 135 4999) M) _
  unfold mX7_advance_b141
  have b := nx_b h
  have := ad_dig_step (fuel := 4999) h hl (ad_digits 4999) (by omega) hr
  rw [hr] at this ⊢
  refine Sf.c (Q := fun x => x = r) ⟨_, rfl, rfl⟩ (fun x er => ?_)
  subst er
  rw [hd]
  refine Sf.c (Q := fun x => x = d) ⟨_, rfl, rfl⟩ (fun x er => ?_)
  subst er
  exact Sf.i (fun q => absurd q hd0) (fun _ => this)
/-- a number's token takes a byte at least -/
def AQ (M : Mem) (q : Mem × Int32) : Prop := AP M q ∧ (rd q.1 135 13 = 3 → nx M < nx q.1)
theorem ad_l : ∀ (fuel : Nat) (M : Mem), OKm gS M → 600 - nx M < fuel → Sf (mX7_advance_l0 135 fuel M) (AQ M) := by
  intro fuel
  induction fuel with
  | zero => intro M h hf; have := nx_b h; exfalso; omega
  | succ fuel IH =>
    intro M h hf
    show Sf (mX7_advance_b0 135 (mX7_advance_l0 135 fuel) M) _
    unfold mX7_advance_b0
    have b := nx_b h
    have b26 : nx M < 600 → Sf (mX7_advance_b26 135 (mX7_advance_l0 135 fuel) M) (AQ M) := by
      intro hl
      unfold mX7_advance_b26
      refine Sf.b (fun M5 e => ?_)
      have t := nx_inc h hl
      have h5 : OKm gS M5 := by rw [e]; exact ps_next h (by rw [t]; omega)
      have k5 : KA M M5 := by rw [e]; exact ka_wr (by decide)
      have n5 : nx M5 = nx M + 1 := by unfold nx; rw [e, rd_we]; exact t
      exact Sf.mono (IH M5 h5 (by omega)) (fun q hq => ⟨⟨hq.1.1, k5.trans hq.1.2.1, hq.1.2.2.1, by have := hq.1.2.2.2; omega⟩, fun _ => by have := hq.1.2.2.2; omega⟩)
    refine Sf.c (sX7_byteAt h (x1 := rd M 135 12) b.1) (fun r2 p2 => Sf.i (fun c => b26 (p2.resolve_left (fun e => absurd (c.symm.trans e) (by decide)))) (fun _ => Sf.c (sX7_byteAt h (x1 := rd M 135 12) b.1) (fun r8 p8 => Sf.i (fun c => b26 (p8.resolve_left (fun e => absurd (c.symm.trans e) (by decide)))) (fun _ => Sf.b (fun M11 e11 => ?_)))))
    have h11 : OKm gS M11 := by rw [e11]; exact ps_start h b
    have k11 : KA M M11 := by rw [e11]; exact ka_wr (by decide)
    have n11 : nx M11 = nx M := by unfold nx; rw [e11, rd_wj (by decide)]
    have b11 := nx_b h11
    obtain ⟨r14, e14, p14⟩ := sX7_byteAt h11 (x1 := rd M11 135 12) b11.1
    rw [e14]
    refine Sf.c (Q := fun x => x = r14) ⟨_, rfl, rfl⟩ (fun x er => ?_)
    subst er
    refine Sf.i (fun _ => Sf.b (fun M64 e64 => Sf.ok ?_)) (fun c14 => ?_)
    · subst e64
      exact ⟨⟨ps_tok h11, k11.trans (ka_wr (by decide)), rfl, by unfold nx; rw [rd_wj (by decide)]; unfold nx at n11; omega⟩, fun q => absurd (rd_we.symm.trans q) (by decide)⟩
    · have hl : nx M11 < 600 := p14.resolve_left c14
      refine Sf.c sX7_isLetter (fun r18 _ => Sf.i (fun _ => ?_) (fun _ => ?_))
      · obtain ⟨d, ed, pd⟩ := sX7_isDigit (x1 := x) (M := M11)
        rw [ed]
        refine Sf.c (Q := fun y => y = d) ⟨_, rfl, rfl⟩ (fun y er => ?_)
        subst er
        refine Sf.i (fun _ => Sf.b (fun M25 e25 => ?_)) (fun cd => Sf.b (fun M32 e32 => ?_))
        · have t := nx_inc h11 hl
          have h25 : OKm gS M25 := by rw [e25]; exact ps_next h11 (by rw [t]; omega)
          have k25 : KA M M25 := by rw [e25]; exact k11.trans (ka_wr (by decide))
          have n25 : nx M25 = nx M + 1 := by unfold nx; rw [e25, rd_we, t, n11]; rfl
          have fin : ∀ y : Int32, Sf (bnd (wr M25 135 13 y) (fun M30 => some (M30, (1 : Int32)))) (AQ M) := by
            intro y
            refine Sf.b (fun M30 e30 => Sf.ok ?_)
            subst e30
            have n30 : nx (wr M25 135 13 y) = nx M25 := by unfold nx; rw [rd_wj (by decide)]
            exact ⟨⟨ps_tok h25, k25.trans (ka_wr (by decide)), rfl, by show nx M ≤ nx (wr M25 135 13 y); omega⟩, fun _ => by show nx M < nx (wr M25 135 13 y); omega⟩
          exact Sf.i (fun _ => fin 4) (fun _ => fin 1)
        · have h32 : OKm gS M32 := by rw [e32]; exact ps_val h11
          have k32 : KA M M32 := by rw [e32]; exact k11.trans (ka_wr (by decide))
          have n32 : nx M32 = nx M := by unfold nx; rw [e32, rd_wj (by decide)]; exact n11
          have r12 : rd M32 135 12 = rd M11 135 12 := by rw [e32, rd_wj (by decide)]
          have e14' : mX7_byteAt 135 (rd M32 135 12) M32 = some x := by
            rw [r12, ← e14]
            unfold mX7_byteAt
            rw [e32, rd_wj (by decide), rd_wk (by decide)]
          have ed' : mX7_isDigit x M32 = some y := ed
          refine Sf.mono (ad_digits1 h32 e14' ed' cd (by omega)) (fun q hq => ⟨⟨hq.1.1, k32.trans hq.1.2.1, hq.1.2.2.1, by have := hq.1.2.2.2; omega⟩, fun _ => by have := hq.2; omega⟩)
      · refine Sf.mono (ad_letters 5000 M11 h11 (by omega)) (fun q hq => ⟨⟨hq.1.1, k11.trans hq.1.2.1, hq.1.2.2.1, by have := hq.1.2.2.2; omega⟩, fun e => absurd e hq.2⟩)
theorem sX7_advance (h : OKm gS M) : Sf (mX7_advance 135 M) (AQ M) := by
  unfold mX7_advance
  have b := nx_b h
  exact ad_l 5000 M h (by omega)
theorem sX7_fail (h : OKm gS M) : Sf (mX7_fail 135 x1 M) (fun q => OKm gS q.1 ∧ KA M q.1 ∧ q.2 = 0 ∧ nx q.1 = nx M) := by
  have b14 : ∀ y : Int32, Sf (mX7_fail_b14 135 y M) (fun q => OKm gS q.1 ∧ KA M q.1 ∧ q.2 = 0 ∧ nx q.1 = nx M) := by
    intro y
    unfold mX7_fail_b14
    refine Sf.b (fun M2 e2 => Sf.b (fun M4 e4 => Sf.ok ?_))
    have h2 : OKm gS M2 := by rw [e2]; exact h.put (b := bT) rfl (i_rng _)
    refine ⟨by show OKm gS M4; rw [e4]; exact h2.put (b := bT) rfl (i_rng _), ?_, rfl, ?_⟩
    · show KA M M4
      rw [e4, e2]; exact (ka_wr (by decide)).trans (ka_wr (by decide))
    · show nx M4 = nx M
      unfold nx
      rw [e4, rd_wj (by decide), e2, rd_wj (by decide)]
  unfold mX7_fail
  exact Sf.i (fun _ => b14 _) (fun _ => b14 _)
theorem sX7_isWord {k1 : Nat} (hk : k1 < 12) (h : OKm gS M) : Sf (mX7_isWord 135 k1 M) (pI 0 1) := by
  unfold mX7_isWord
  rw [sJ0_length hk]
  have b12 := nx_b h
  have b11 : (0 : Int) ≤ (rd M 135 11).toInt ∧ (rd M 135 11).toInt ≤ 600 := h.std 135 11
  have h8 := (st_len k1 hk).2.2
  have tl : (Int32.ofNat (stLen k1)).toInt = (stLen k1 : Int) := toInt_of rfl (by omega)
  unfold nx at b12
  refine Sf.i (fun _ => Sf.c (Q := fun r => r = Int32.ofNat (stLen k1)) ⟨_, rfl, rfl⟩ (fun r er => Sf.i (fun c => ?_) (fun _ => Sf.ok (by decide)))) (fun _ => Sf.ok (by decide))
  subst er
  have c := congrArg Int32.toInt c
  rw [i_sub (by omega) (by omega), tl] at c
  have key : ∀ (fuel i : Nat), i ≤ stLen k1 → stLen k1 - i < fuel → Sf (mX7_isWord_l28 135 k1 M fuel (Int32.ofNat i)) (pI 0 1) := by
    intro fuel
    induction fuel with
    | zero => intro i _ h; exfalso; omega
    | succ fuel IH =>
      intro i hi hf
      show Sf (mX7_isWord_b28 135 k1 M (mX7_isWord_l28 135 k1 M fuel) (Int32.ofNat i)) _
      unfold mX7_isWord_b28
      rw [sJ0_length hk]
      have ti : (Int32.ofNat i).toInt = (i : Int) := t_of (by omega)
      refine Sf.c (Q := fun r => r = Int32.ofNat (stLen k1)) ⟨_, rfl, rfl⟩ (fun r er => ?_)
      subst er
      refine Sf.i (fun _ => Sf.ok (by decide)) (fun ci => ?_)
      have ci := i_nle ci
      rw [ti, tl] at ci
      have e := i_add (a := rd M 135 11) (b := Int32.ofNat i) (by omega) (by omega)
      refine Sf.k (ok_in (by omega) (by omega)) (Sf.c (sJ0_charAt hk (by omega) (by omega)) (fun r12 _ => Sf.i (fun _ => Sf.b (fun y ey => ?_)) (fun _ => Sf.ok (by decide))))
      have ey : y = Int32.ofNat (i + 1) := ey.trans (Int32.ofNat_add i 1).symm
      rw [ey]
      exact IH (i + 1) (by omega) (by omega)
  exact key 5000 0 (by omega) (by omega)
/-! statements -/
/-- the parsed row -/
def PI (M : Mem) : Prop := OKm gS M ∧ (rd M 137 1).toInt ≤ (rd M 137 0).toInt + 1 ∧ 1 ≤ (rd M 137 36).toInt ∧ rd M 137 52 = 0 ∧ rd M 137 53 = 0
def KP (M M' : Mem) : Prop := ∀ k j, k ≠ 137 → ¬ (k = 135 ∧ 11 ≤ j ∧ j ≤ 16) → rd M' k j = rd M k j
theorem KA.kp (h : KA M M') : KP M M' := fun k j _ q => h k j q
theorem KP.trans (h : KP M M') (h' : KP M' M'') : KP M M'' := fun k j q1 q2 => (h' k j q1 q2).trans (h k j q1 q2)
theorem KA.p (h : KA M M') (j : Nat) : rd M' 137 j = rd M 137 j := h 137 j (by omega)
theorem PI.ka (h : PI M) (h' : OKm gS M') (k : KA M M') : PI M' := by
  refine ⟨h', ?_, ?_, ?_, ?_⟩
  · rw [k.p, k.p]; exact h.2.1
  · rw [k.p]; exact h.2.2.1
  · rw [k.p]; exact h.2.2.2.1
  · rw [k.p]; exact h.2.2.2.2
theorem put137 {j : Nat} (h : OKm gS M) (hv : (bxS 0 j).1 ≤ v.toInt ∧ v.toInt ≤ (bxS 0 j).2) : OKm gS (wr M 137 j v) := h.put rfl hv
theorem kp_wr {j : Nat} : KP M (wr M 137 j v) := fun k i q _ => rd_wk q
/-- what a statement gives -/
def SP (M : Mem) (q : Mem × Int32) : Prop := PI q.1 ∧ KP M q.1 ∧ (0 ≤ q.2.toInt ∧ q.2.toInt ≤ 1) ∧ nx M ≤ nx q.1 ∧ (¬ q.2 = 0 → nx M < nx q.1)
theorem sp_fail {y : Int32} (h : PI M) : Sf (cal (mX7_fail 135 y M) (fun M15 r14 => chk (isB r14) (some (M15, r14)))) (SP M) := by
  refine Sf.m (sX7_fail h.1) (fun M15 r p => ?_)
  have e : r = 0 := p.2.2.1
  subst e
  exact Sf.k (by decide) (Sf.ok ⟨h.ka p.1 p.2.1, KA.kp p.2.1, z01_0, by have := p.2.2.2; omega, fun q => absurd rfl q⟩)
/-- a number in its place -/
theorem sX7_number {i : Nat} (h : PI M) (hi : x1.toInt = (i : Int) ∧ i < 86 ∧ i ≠ 0 ∧ i ≠ 1 ∧ i ≠ 52 ∧ i ≠ 53) (hlo : (bxS 0 i).1 ≤ x2.toInt ∧ (i = 36 → 1 ≤ x2.toInt)) (hhi : x3.toInt ≤ (bxS 0 i).2) : Sf (mX7_number 135 x1 x2 x3 M) (fun q => PI q.1 ∧ KP M q.1 ∧ (0 ≤ q.2.toInt ∧ q.2.toInt ≤ 1) ∧ nx M ≤ nx q.1 ∧ (¬ q.2 = 0 → rd M 135 13 = 3) ∧ ∀ j, j ≠ i → rd q.1 137 j = rd M 137 j) := by
  unfold mX7_number
  have no : ∀ y : Int32, Sf (cal (mX7_fail 135 y M) (fun M15 r14 => chk (isB r14) (some (M15, r14)))) (fun q => PI q.1 ∧ KP M q.1 ∧ (0 ≤ q.2.toInt ∧ q.2.toInt ≤ 1) ∧ nx M ≤ nx q.1 ∧ (¬ q.2 = 0 → rd M 135 13 = 3) ∧ ∀ j, j ≠ i → rd q.1 137 j = rd M 137 j) := by
    intro y
    refine Sf.m (sX7_fail h.1) (fun M15 r p => ?_)
    have e : r = 0 := p.2.2.1
    subst e
    exact Sf.k (by decide) (Sf.ok ⟨h.ka p.1 p.2.1, KA.kp p.2.1, z01_0, by have := p.2.2.2; omega, fun q => absurd rfl q, fun j _ => KA.p p.2.1 j⟩)
  refine Sf.i (fun c3 => Sf.c (sX7_between (Int32.toInt_toInt64 _) (Int32.toInt_toInt64 _) (Int32.toInt_toInt64 _)) (fun r3 p3 => Sf.i (fun _ => no 3) (fun c => ?_))) (fun _ => no 2)
  have hv := p3.2.resolve_left (i_ne c)
  refine Sf.k (ok_in (by omega) (by omega)) (Sf.b (fun M8 e8 => ?_))
  rw [i_clamp, show x1.toInt.toNat = i by omega] at e8
  have e8 : M8 = wr M 137 i (rd M 135 14) := e8
  have r8 : ∀ j, j ≠ i → rd M8 137 j = rd M 137 j := fun j hj => by rw [e8]; exact rd_wj hj
  have h8 : PI M8 := by
    refine ⟨by rw [e8]; exact put137 h.1 ⟨by omega, by omega⟩, ?_, ?_, ?_, ?_⟩
    · rw [r8 1 (by omega), r8 0 (by omega)]; exact h.2.1
    · by_cases e : 36 = i
      · rw [← e] at e8 hlo
        rw [e8, rd_we]
        have := hlo.2 rfl
        omega
      · rw [r8 36 e]; exact h.2.2.1
    · rw [r8 52 (by omega)]; exact h.2.2.2.1
    · rw [r8 53 (by omega)]; exact h.2.2.2.2
  have k8 : KP M M8 := by rw [e8]; exact kp_wr
  have n8 : nx M8 = nx M := by unfold nx; rw [e8, rd_wk (by decide)]
  refine Sf.m (sX7_advance h8.1) (fun M11 r10 p => ?_)
  have e : r10 = 1 := p.1.2.2.1
  subst e
  exact Sf.k (by decide) (Sf.ok ⟨h8.ka p.1.1 p.1.2.1, k8.trans (KA.kp p.1.2.1), z01_1, by have := p.1.2.2.2; rw [n8] at this; exact this, fun _ => c3, fun j hj => (KA.p p.1.2.1 j).trans (r8 j hj)⟩)
/-- the next token, then a number: what is behind it -/
theorem sp_num {i : Nat} {k : Mem → Int32 → Option (Mem × Int32)} (h : PI M) (hi : x1.toInt = (i : Int) ∧ i < 86 ∧ i ≠ 0 ∧ i ≠ 1 ∧ i ≠ 52 ∧ i ≠ 53) (hlo : (bxS 0 i).1 ≤ x2.toInt ∧ (i = 36 → 1 ≤ x2.toInt)) (hhi : x3.toInt ≤ (bxS 0 i).2) (hk : ∀ M' r, PI M' → KP M M' → (0 ≤ r.toInt ∧ r.toInt ≤ 1) → nx M ≤ nx M' → (¬ r = 0 → rd M 135 13 = 3) → (∀ j, j ≠ i → rd M' 137 j = rd M 137 j) → Sf (k M' r) (SP M'')) : Sf (cal (mX7_number 135 x1 x2 x3 M) k) (SP M'') :=
  Sf.m (sX7_number h hi hlo hhi) (fun M' r p => hk M' r p.1 p.2.1 p.2.2.1 p.2.2.2.1 p.2.2.2.2.1 p.2.2.2.2.2)
theorem sp_no {r : Int32} (h : PI M') (k : KP M M') (hn : nx M ≤ nx M') (hr : r = 0) : SP M (M', r) := ⟨h, k, by rw [hr]; exact z01_0, hn, fun q => absurd hr q⟩
theorem sX7_sheetStatement (h : PI M) : Sf (mX7_sheetStatement 135 M) (SP M) := by
  unfold mX7_sheetStatement
  refine Sf.m (sX7_advance h.1) (fun M3 r2 p => ?_)
  have h3 := h.ka p.1.1 p.1.2.1
  have k3 : KP M M3 := KA.kp p.1.2.1
  have n3 : nx M ≤ nx M3 := p.1.2.2.2
  refine sp_num (i := 36) h3 (by decide) (by decide) (by decide) (fun M6 r5 h6 k6 b6 n6 c6 _ => Sf.i (fun _ => Sf.ok (sp_no h6 (k3.trans k6) (by omega) rfl)) (fun c => ?_))
  have st := p.2 (c6 c)
  have st : nx M < nx M3 := st
  refine sp_num (i := 37) h6 (by decide) (by decide) (by decide) (fun M10 r9 h10 k10 b10 n10 _ _ => Sf.i (fun _ => Sf.ok (sp_no h10 ((k3.trans k6).trans k10) (by omega) rfl)) (fun _ => ?_))
  refine sp_num (i := 38) h10 (by decide) (by decide) (by decide) (fun M14 r13 h14 k14 b14 n14 _ _ => Sf.i (fun _ => Sf.ok (sp_no h14 (((k3.trans k6).trans k10).trans k14) (by omega) rfl)) (fun _ => Sf.ok ⟨h14, ((k3.trans k6).trans k10).trans k14, z01_1, by show nx M ≤ nx M14; omega, fun _ => by show nx M < nx M14; omega⟩))
theorem sX7_costStatement (h : PI M) : Sf (mX7_costStatement 135 M) (SP M) := by
  unfold mX7_costStatement
  refine Sf.m (sX7_advance h.1) (fun M3 r2 p => ?_)
  have h3 := h.ka p.1.1 p.1.2.1
  have k3 : KP M M3 := KA.kp p.1.2.1
  have n3 : nx M ≤ nx M3 := p.1.2.2.2
  refine sp_num (i := 49) h3 (by decide) (by decide) (by decide) (fun M6 r5 h6 k6 b6 n6 c6 _ => Sf.i (fun _ => Sf.ok (sp_no h6 (k3.trans k6) (by omega) rfl)) (fun c => ?_))
  have st : nx M < nx M3 := p.2 (c6 c)
  refine sp_num (i := 50) h6 (by decide) (by decide) (by decide) (fun M10 r9 h10 k10 b10 n10 _ _ => Sf.i (fun _ => Sf.ok (sp_no h10 ((k3.trans k6).trans k10) (by omega) rfl)) (fun _ => ?_))
  refine sp_num (i := 51) h10 (by decide) (by decide) (by decide) (fun M14 r13 h14 k14 b14 n14 _ _ => Sf.i (fun _ => Sf.ok (sp_no h14 (((k3.trans k6).trans k10).trans k14) (by omega) rfl)) (fun _ => Sf.ok ⟨h14, ((k3.trans k6).trans k10).trans k14, z01_1, by show nx M ≤ nx M14; omega, fun _ => by show nx M < nx M14; omega⟩))
theorem sX7_legStatement (h : PI M) : Sf (mX7_legStatement 135 M) (SP M) := by
  unfold mX7_legStatement
  refine Sf.k (by decide) (Sf.i (fun _ => Sf.m (sX7_advance h.1) (fun M3 r2 p => ?_)) (fun _ => sp_fail h))
  have h3 := h.ka p.1.1 p.1.2.1
  have k3 : KP M M3 := KA.kp p.1.2.1
  have n3 : nx M ≤ nx M3 := p.1.2.2.2
  refine sp_num (i := 2) h3 (by decide) (by decide) (by decide) (fun M8 r7 h8 k8 b8 n8 c8 _ => Sf.i (fun _ => Sf.ok (sp_no h8 (k3.trans k8) (by omega) rfl)) (fun c => Sf.k (by decide) (Sf.b (fun M12 e12 => Sf.ok ?_))))
  have st : nx M < nx M3 := p.2 (c8 c)
  have e12 : M12 = wr M8 137 1 1 := e12
  have b0 : (0 : Int) ≤ (rd M8 137 0).toInt ∧ (rd M8 137 0).toInt ≤ 8 := h8.1.std 137 0
  have r12 : ∀ j, j ≠ 1 → rd M12 137 j = rd M8 137 j := fun j hj => by rw [e12]; exact rd_wj hj
  have n12 : nx M12 = nx M8 := by unfold nx; rw [e12, rd_wk (by decide)]
  refine ⟨⟨by show OKm gS M12; rw [e12]; exact put137 h8.1 (by decide), ?_, ?_, ?_, ?_⟩, ?_, z01_1, by show nx M ≤ nx M12; omega, fun _ => by show nx M < nx M12; omega⟩
  · show (rd M12 137 1).toInt ≤ (rd M12 137 0).toInt + 1
    rw [r12 0 (by decide), e12, rd_we, show ((1 : Int32)).toInt = 1 from rfl]; omega
  · show 1 ≤ (rd M12 137 36).toInt
    rw [r12 36 (by decide)]; exact h8.2.2.1
  · show rd M12 137 52 = 0
    rw [r12 52 (by decide)]; exact h8.2.2.2.1
  · show rd M12 137 53 = 0
    rw [r12 53 (by decide)]; exact h8.2.2.2.2
  · show KP M M12
    rw [e12]; exact (k3.trans k8).trans kp_wr
theorem bx_leg0 : ∀ j, j < 8 → bxS 0 (3 + j) = (0, 9999) ∧ bxS 0 (11 + j) = (0, 1) := by decide
theorem bx_back0 : ∀ j, j < 8 → bxS 0 (20 + 2 * j) = (0, 999) ∧ bxS 0 (21 + 2 * j) = (0, 999) := by decide
theorem bx_tool0 : ∀ j, j < 5 → bxS 0 (39 + 2 * j) = (0, 9999) ∧ bxS 0 (40 + 2 * j) = (0, 9999) := by decide
theorem sX7_bendStatement {x : Int32} (h : PI M) : Sf (mX7_bendStatement 135 x M) (SP M) := by
  unfold mX7_bendStatement
  refine Sf.k (by decide) (Sf.i (fun _ => sp_fail h) (fun _ => Sf.k (by decide) (Sf.b (fun b eb => Sf.i (fun _ => sp_fail h) (fun c8 => Sf.m (sX7_advance h.1) (fun M3 r2 p => ?_))))))
  have eb : b = rd M 137 0 := eb
  have h3 := h.ka p.1.1 p.1.2.1
  have k3 : KP M M3 := KA.kp p.1.2.1
  have q3 : ∀ j, rd M3 137 j = rd M 137 j := KA.p p.1.2.1
  have n3 : nx M ≤ nx M3 := p.1.2.2.2
  have b0 : (0 : Int) ≤ (rd M 137 0).toInt ∧ (rd M 137 0).toInt ≤ 8 := h.1.std 137 0
  have b1 : (0 : Int) ≤ (rd M 137 1).toInt ∧ (rd M 137 1).toInt ≤ 9 := h.1.std 137 1
  rw [← eb] at b0
  have c8 := i_ne c8
  rw [show ((8 : Int32)).toInt = 8 from rfl] at c8
  have n2 : ((2 : Int32)).toInt = 2 := rfl
  have n1 : ((1 : Int32)).toInt = 1 := rfl
  have n11 : ((11 : Int32)).toInt = 11 := rfl
  have e1 := i_add (a := (2 : Int32)) (b := b) (by omega) (by omega)
  have e2 := i_add (a := (2 : Int32) + b) (b := 1) (by omega) (by omega)
  have e3 := i_add (a := (11 : Int32)) (b := b) (by omega) (by omega)
  have bx := bx_leg0 b.toInt.toNat (by omega)
  refine sp_num (i := 3 + b.toInt.toNat) h3 ⟨by omega, by omega, by omega, by omega, by omega, by omega⟩ (by rw [bx.1]; exact ⟨by decide, fun q => by omega⟩) (by rw [bx.1]; decide) (fun M11 r10 h11 k11 b11 nn11 c11 q11 => Sf.i (fun _ => Sf.ok (sp_no h11 (k3.trans k11) (by omega) rfl)) (fun c => ?_))
  have st : nx M < nx M3 := p.2 (c11 c)
  have b74 : ∀ y : Int32, 0 ≤ y.toInt ∧ y.toInt ≤ 1 → Sf (mX7_bendStatement_b74 135 ((11 : Int32) + b) y M11) (SP M) := by
    intro y hy
    unfold mX7_bendStatement_b74
    refine Sf.k (ok_in (by omega) (by omega)) (Sf.b (fun M16 e16 => Sf.k (by decide) (Sf.k (by decide) (Sf.b (fun M20 e20 => Sf.k (by decide) (Sf.k (by decide) (Sf.b (fun M24 e24 => Sf.ok ?_))))))))
    rw [i_clamp, show ((11 : Int32) + b).toInt.toNat = 11 + b.toInt.toNat by omega] at e16
    have e16 : M16 = wr M11 137 (11 + b.toInt.toNat) y := e16
    have e20 : M20 = wr M16 137 0 (rd M16 137 0 + 1) := e20
    have e24 : M24 = wr M20 137 1 (rd M20 137 1 + 1) := e24
    have o16 : OKm gS M16 := by rw [e16]; exact put137 h11.1 (by rw [bx.2]; exact hy)
    have v0 : rd M16 137 0 = b := by rw [e16, rd_wj (by omega), q11 0 (by omega), q3, eb]
    have v1 : rd M16 137 1 = rd M 137 1 := by rw [e16, rd_wj (by omega), q11 1 (by omega), q3]
    rw [v0] at e20
    have w1 : rd M20 137 1 = rd M 137 1 := by rw [e20, rd_wj (by decide)]; exact v1
    rw [w1] at e24
    have tb := i_add (a := b) (b := 1) (by omega) (by omega)
    have h21 := h.2.1
    rw [← eb] at h21
    have tl := i_add (a := rd M 137 1) (b := 1) (by omega) (by omega)
    have o20 : OKm gS M20 := by rw [e20]; exact put137 o16 ⟨by show (0 : Int) ≤ _; omega, by show _ ≤ (8 : Int); omega⟩
    have o24 : OKm gS M24 := by rw [e24]; exact put137 o20 ⟨by show (0 : Int) ≤ _; omega, by show _ ≤ (9 : Int); omega⟩
    have r24 : ∀ j, 19 ≤ j → rd M24 137 j = rd M11 137 j := fun j hj => by rw [e24, rd_wj (by omega), e20, rd_wj (by omega), e16, rd_wj (by omega)]
    have n24 : nx M24 = nx M11 := by unfold nx; rw [e24, rd_wk (by decide), e20, rd_wk (by decide), e16, rd_wk (by decide)]
    refine ⟨⟨o24, ?_, ?_, ?_, ?_⟩, ?_, z01_1, by show nx M ≤ nx M24; omega, fun _ => by show nx M < nx M24; omega⟩
    · show (rd M24 137 1).toInt ≤ (rd M24 137 0).toInt + 1
      rw [e24, rd_we, rd_wj (by decide), e20, rd_we]; omega
    · show 1 ≤ (rd M24 137 36).toInt
      rw [r24 36 (by decide)]; exact h11.2.2.1
    · show rd M24 137 52 = 0
      rw [r24 52 (by decide)]; exact h11.2.2.2.1
    · show rd M24 137 53 = 0
      rw [r24 53 (by decide)]; exact h11.2.2.2.2
    · show KP M M24
      rw [e24, e20, e16]; exact (((k3.trans k11).trans kp_wr).trans kp_wr).trans kp_wr
  exact Sf.i (fun _ => b74 0 (by decide)) (fun _ => b74 1 (by decide))
theorem sX7_backStatement (h : PI M) : Sf (mX7_backStatement 135 M) (SP M) := by
  unfold mX7_backStatement
  refine Sf.k (by decide) (Sf.b (fun b eb => Sf.i (fun _ => sp_fail h) (fun c8 => Sf.m (sX7_advance h.1) (fun M3 r2 p => ?_))))
  have eb : b = rd M 137 19 := eb
  have h3 := h.ka p.1.1 p.1.2.1
  have k3 : KP M M3 := KA.kp p.1.2.1
  have q3 : ∀ j, rd M3 137 j = rd M 137 j := KA.p p.1.2.1
  have n3 : nx M ≤ nx M3 := p.1.2.2.2
  have b0 : (0 : Int) ≤ (rd M 137 19).toInt ∧ (rd M 137 19).toInt ≤ 8 := h.1.std 137 19
  rw [← eb] at b0
  have c8 := i_ne c8
  rw [show ((8 : Int32)).toInt = 8 from rfl] at c8
  have n20 : ((20 : Int32)).toInt = 20 := rfl
  have n2 : ((2 : Int32)).toInt = 2 := rfl
  have n1 : ((1 : Int32)).toInt = 1 := rfl
  have e1 := i_mulc (a := (2 : Int32)) (b := b) (c := 2) rfl (by omega) (by omega)
  have e2 := i_add (a := (20 : Int32)) (b := (2 : Int32) * b) (by omega) (by omega)
  have e3 := i_add (a := (20 : Int32) + (2 : Int32) * b) (b := 1) (by omega) (by omega)
  have e4 := i_sub (a := (20 : Int32) + (2 : Int32) * b) (b := 2) (by omega) (by omega)
  have bx := bx_back0 b.toInt.toNat (by omega)
  have b48 : ∀ y : Int32, 0 ≤ y.toInt → Sf (mX7_backStatement_b48 135 b y M3) (SP M) := by
    intro y hy
    unfold mX7_backStatement_b48
    refine sp_num (i := 20 + 2 * b.toInt.toNat) h3 ⟨by omega, by omega, by omega, by omega, by omega, by omega⟩ (by rw [bx.1]; exact ⟨hy, fun q => by omega⟩) (by rw [bx.1]; decide) (fun M11 r10 h11 k11 b11 nn11 c11 q11 => Sf.i (fun _ => Sf.ok (sp_no h11 (k3.trans k11) (by omega) rfl)) (fun c => ?_))
    have st : nx M < nx M3 := p.2 (c11 c)
    refine sp_num (i := 21 + 2 * b.toInt.toNat) h11 ⟨by omega, by omega, by omega, by omega, by omega, by omega⟩ (by rw [bx.2]; exact ⟨by decide, fun q => by omega⟩) (by rw [bx.2]; decide) (fun M15 r14 h15 k15 b15 nn15 c15 q15 => Sf.i (fun _ => Sf.ok (sp_no h15 ((k3.trans k11).trans k15) (by omega) rfl)) (fun _ => Sf.k (by decide) (Sf.k (by decide) (Sf.b (fun M20 e20 => Sf.ok ?_)))))
    have e20 : M20 = wr M15 137 19 (rd M15 137 19 + 1) := e20
    have v19 : rd M15 137 19 = b := by rw [q15 19 (by omega), q11 19 (by omega), q3, eb]
    rw [v19] at e20
    have tb := i_add (a := b) (b := 1) (by omega) (by omega)
    have r20 : ∀ j, j ≠ 19 → rd M20 137 j = rd M15 137 j := fun j hj => by rw [e20, rd_wj hj]
    have nn20 : nx M20 = nx M15 := by unfold nx; rw [e20, rd_wk (by decide)]
    refine ⟨⟨by show OKm gS M20; rw [e20]; exact put137 h15.1 ⟨by show (0 : Int) ≤ _; omega, by show _ ≤ (8 : Int); omega⟩, ?_, ?_, ?_, ?_⟩, ?_, z01_1, by show nx M ≤ nx M20; omega, fun _ => by show nx M < nx M20; omega⟩
    · show (rd M20 137 1).toInt ≤ (rd M20 137 0).toInt + 1
      rw [r20 1 (by decide), r20 0 (by decide)]; exact h15.2.1
    · show 1 ≤ (rd M20 137 36).toInt
      rw [r20 36 (by decide)]; exact h15.2.2.1
    · show rd M20 137 52 = 0
      rw [r20 52 (by decide)]; exact h15.2.2.2.1
    · show rd M20 137 53 = 0
      rw [r20 53 (by decide)]; exact h15.2.2.2.2
    · show KP M M20
      rw [e20]; exact ((k3.trans k11).trans k15).trans kp_wr
  refine Sf.i (fun _ => b48 0 (by decide)) (fun c0 => ?_)
  have c0 := i_ne c0
  rw [show ((0 : Int32)).toInt = 0 from rfl] at c0
  refine Sf.k (ok_in (by omega) (by omega)) (b48 _ ?_)
  have bq : (0 : Int) ≤ (rd M3 (135 + 2) ((20 : Int32) + (2 : Int32) * b - (2 : Int32)).toNatClampNeg).toInt ∧ (rd M3 (135 + 2) ((20 : Int32) + (2 : Int32) * b - (2 : Int32)).toNatClampNeg).toInt ≤ 999 := h3.1.ri 20 35 (by decide +kernel) (by omega) (by omega)
  rw [i_add (by omega) (by omega)]
  omega
theorem sX7_toolStatement (h : PI M) (hx : 0 ≤ x1.toInt ∧ x1.toInt ≤ 4) : Sf (mX7_toolStatement 135 x1 M) (SP M) := by
  unfold mX7_toolStatement
  refine Sf.m (sX7_advance h.1) (fun M3 r2 p => Sf.b (fun i ei => ?_))
  have h3 := h.ka p.1.1 p.1.2.1
  have k3 : KP M M3 := KA.kp p.1.2.1
  have n3 : nx M ≤ nx M3 := p.1.2.2.2
  have n39 : ((39 : Int32)).toInt = 39 := rfl
  have n1 : ((1 : Int32)).toInt = 1 := rfl
  have e1 := i_mulc (a := (2 : Int32)) (b := x1) (c := 2) rfl (by omega) (by omega)
  have e2 := i_add (a := (39 : Int32)) (b := (2 : Int32) * x1) (by omega) (by omega)
  have ti : i.toInt = 39 + 2 * x1.toInt := by rw [ei, e2, e1, n39]
  have e3 := i_add (a := i) (b := 1) (by omega) (by omega)
  have bx := bx_tool0 x1.toInt.toNat (by omega)
  refine sp_num (i := 39 + 2 * x1.toInt.toNat) h3 ⟨by omega, by omega, by omega, by omega, by omega, by omega⟩ (by rw [bx.1]; exact ⟨by decide, fun q => by omega⟩) (by rw [bx.1]; decide) (fun M7 r6 h7 k7 b7 nn7 c7 q7 => Sf.i (fun _ => Sf.ok (sp_no h7 (k3.trans k7) (by omega) rfl)) (fun c => ?_))
  have st : nx M < nx M3 := p.2 (c7 c)
  have b59 : ∀ M', PI M' → KP M M' → nx M7 ≤ nx M' → Sf (mX7_toolStatement_b59 135 M') (SP M) := by
    intro M' h' k' n'
    unfold mX7_toolStatement_b59
    exact Sf.ok ⟨h', k', z01_1, by show nx M ≤ nx M'; omega, fun _ => by show nx M < nx M'; omega⟩
  have b50 : ∀ y : Int32, 0 ≤ y.toInt → Sf (mX7_toolStatement_b50 135 (i + 1) y M7) (SP M) := by
    intro y hy
    unfold mX7_toolStatement_b50
    refine sp_num (i := 40 + 2 * x1.toInt.toNat) h7 ⟨by omega, by omega, by omega, by omega, by omega, by omega⟩ (by rw [bx.2]; exact ⟨hy, fun q => by omega⟩) (by rw [bx.2]; decide) (fun M13 r12 h13 k13 b13 nn13 _ _ => Sf.i (fun _ => Sf.ok (sp_no h13 ((k3.trans k7).trans k13) (by omega) rfl)) (fun _ => b59 M13 h13 ((k3.trans k7).trans k13) nn13))
  refine Sf.i (fun _ => b59 M7 h7 (k3.trans k7) (by omega)) (fun _ => Sf.i (fun _ => Sf.k (ok_in (by omega) (by omega)) (b50 _ ?_)) (fun _ => b50 0 (by decide)))
  have bq : (0 : Int) ≤ (rd M7 (135 + 2) i.toNatClampNeg).toInt ∧ (rd M7 (135 + 2) i.toNatClampNeg).toInt ≤ 9999 := h7.1.ri 39 48 (by decide +kernel) (by omega) (by omega)
  exact bq.1
theorem sX7_toolHere (h : OKm gS M) : Sf (mX7_toolHere 135 M) (pI (-1) 4) := by
  unfold mX7_toolHere
  refine Sf.c (sX7_isWord (by decide) h) (fun _ _ => Sf.i (fun _ => ?_) (fun _ => Sf.ok (by decide)))
  refine Sf.c (sX7_isWord (by decide) h) (fun _ _ => Sf.i (fun _ => ?_) (fun _ => Sf.ok (by decide)))
  refine Sf.c (sX7_isWord (by decide) h) (fun _ _ => Sf.i (fun _ => ?_) (fun _ => Sf.ok (by decide)))
  refine Sf.c (sX7_isWord (by decide) h) (fun _ _ => Sf.i (fun _ => ?_) (fun _ => Sf.ok (by decide)))
  exact Sf.c (sX7_isWord (by decide) h) (fun _ _ => Sf.i (fun _ => Sf.ok (by decide)) (fun _ => Sf.ok (by decide)))
theorem sp_B {x : Option (Mem × Int32)} (hx : Sf x (SP M)) : Sf (cal x (fun M38 r37 => chk (isB r37) (some (M38, r37)))) (SP M) :=
  Sf.m hx (fun M38 r37 p => Sf.k (isB_in p.2.2.1) (Sf.ok p))
theorem sX7_statement (h : PI M) : Sf (mX7_statement 135 M) (SP M) := by
  have b46 : Sf (mX7_statement_b46 135 M) (SP M) := by
    unfold mX7_statement_b46
    exact Sf.c (sX7_isWord (by decide) h.1) (fun r _ => sp_B (sX7_bendStatement h))
  unfold mX7_statement
  refine Sf.c (sX7_isWord (by decide) h.1) (fun _ _ => Sf.i (fun _ => ?_) (fun _ => sp_B (sX7_sheetStatement h)))
  refine Sf.c (sX7_isWord (by decide) h.1) (fun _ _ => Sf.i (fun _ => ?_) (fun _ => sp_B (sX7_legStatement h)))
  refine Sf.c (sX7_isWord (by decide) h.1) (fun _ _ => Sf.i (fun _ => ?_) (fun _ => b46))
  refine Sf.c (sX7_isWord (by decide) h.1) (fun _ _ => Sf.i (fun _ => ?_) (fun _ => b46))
  refine Sf.c (sX7_isWord (by decide) h.1) (fun _ _ => Sf.i (fun _ => ?_) (fun _ => sp_B (sX7_backStatement h)))
  refine Sf.c (sX7_isWord (by decide) h.1) (fun _ _ => Sf.i (fun _ => ?_) (fun _ => sp_B (sX7_costStatement h)))
  refine Sf.c (sX7_toolHere h.1) (fun r p => Sf.i (fun _ => sp_fail h) (fun c => sp_B (sX7_toolStatement h ?_)))
  have c := i_ne c
  rw [show ((-1 : Int32)).toInt = -1 from rfl] at c
  obtain ⟨pa, pb⟩ := p
  omega
theorem sX7_closed (h : PI M) : Sf (mX7_closed 135 M) (fun q => PI q.1 ∧ KP M q.1 ∧ (0 ≤ q.2.toInt ∧ q.2.toInt ≤ 1) ∧ nx M ≤ nx q.1) := by
  unfold mX7_closed
  refine Sf.i (fun _ => Sf.m (sX7_advance h.1) (fun M4 r3 p => ?_)) (fun _ => Sf.m (sX7_fail h.1) (fun M8 r7 p => ?_))
  · have e : r3 = 1 := p.1.2.2.1
    subst e
    exact Sf.k (by decide) (Sf.ok ⟨h.ka p.1.1 p.1.2.1, KA.kp p.1.2.1, z01_1, p.1.2.2.2⟩)
  · have e : r7 = 0 := p.2.2.1
    subst e
    exact Sf.k (by decide) (Sf.ok ⟨h.ka p.1 p.2.1, KA.kp p.2.1, z01_0, by have := p.2.2.2; omega⟩)
end PJ
