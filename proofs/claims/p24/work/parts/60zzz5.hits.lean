/-! what is laid is told alike: tops, hits, corners; what is refused, possible, stuck -/
section TH
variable {n m a b s c l e : Nat} {M M' N N' N0 : Mem} {x x1 x2 x3 x4 v : Int32}
theorem an_top (h : SS M N) (hI : MI N) : R2 (mX6_top 0 x1 x2 M) (mX7_top 135 x1 x2 N) (XR nmb2) := by
  obtain ⟨m, m2, em, hR⟩ := row_at hI h.1
  have n8 := nb8 (pr_9 h.1)
  have hn : (rd N 136 0).toInt = (nb 5 M : Int) := h.1.pb.bn
  have lb : 0 ≤ (rd N 136 1).toInt ∧ (rd N 136 1).toInt ≤ 9 := h.1.lb
  unfold mX6_top mX7_top
  refine R2.step h (fun b s hb hs e1 e2 => ?_) (XR.inr rd_we) (XR.inr rd_we)
  subst e1
  subst e2
  have hT := h.th (v := 0)
  have e52 : rd (wr N 135 5 0) (135 + 1) ((52 : Int32)).toNatClampNeg = Int32.ofNat m := (rd_wk (by decide)).trans (h.1.ma.symm.trans em)
  rw [f_code b (by omega) s hs, em, e52]
  refine R2.kr (fun _ => R2.mm (sheet_R (k := 103) (by omega) hT.1 ((congrArg Int32.toInt (rd_wk (by decide))).trans hn) hb hs m2) (fun M7 _ N9 _ p => ?_))
  obtain ⟨p1, p2, p3⟩ := p
  have p3 : KS SRl (wr N 135 5 0) N9 := p3
  have e1 : rd N9 136 1 = rd N 136 1 := (p3 136 1 (by unfold SRl; omega)).trans (rd_wk (by decide))
  have e5 : rd N9 135 5 = 0 := (p3 135 5 (by unfold SRl; omega)).trans rd_we
  intro p q hp hq
  obtain ⟨r, hr, hp⟩ := cap_s hp
  cases hp
  obtain ⟨w1, w2⟩ := top_R p1 (by omega) hs (by rw [e1]; exact lb.2) r q hr hq
  exact ⟨fun v e => by cases e; exact ⟨by rw [w2]; exact e5, w1⟩, fun e z => by cases z⟩
theorem an_hitting (h : SS M N) (hI : MI N) : R2 (mX6_hitting 0 x1 x2 M) (mX7_hitting 135 x1 x2 N) (XR nmb2) := by
  obtain ⟨m, m2, em, hR⟩ := row_at hI h.1
  have n8 := nb8 (pr_9 h.1)
  have hn : (rd N 136 0).toInt = (nb 5 M : Int) := h.1.pb.bn
  have lb : 0 ≤ (rd N 136 1).toInt ∧ (rd N 136 1).toInt ≤ 9 := h.1.lb
  unfold mX6_hitting mX7_hitting
  refine R2.step h (fun b s hb hs e1 e2 => ?_) (XR.inr rd_we) (XR.inr rd_we)
  subst e1
  subst e2
  have hT := h.th (v := 0)
  have e52 : rd (wr N 135 5 0) (135 + 1) ((52 : Int32)).toNatClampNeg = Int32.ofNat m := (rd_wk (by decide)).trans (h.1.ma.symm.trans em)
  rw [f_code b (by omega) s hs, em, e52]
  refine R2.kr (fun _ => R2.mm (sheet_R (k := 103) (by omega) hT.1 ((congrArg Int32.toInt (rd_wk (by decide))).trans hn) hb hs m2) (fun M7 _ N9 _ p => ?_))
  obtain ⟨p1, p2, p3⟩ := p
  have p2 : KS (SPs 103) M M7 := p2
  have p3 : KS SRl (wr N 135 5 0) N9 := p3
  have e6 : ∀ j, rd N9 136 j = rd N 136 j := fun j => (p3 136 j (by unfold SRl; omega)).trans (rd_wk (by decide))
  have e5 : rd N9 135 5 = 0 := (p3 135 5 (by unfold SRl; omega)).trans rd_we
  refine R2.cc (hits_R p1 (by omega) hs (by rw [e6]; exact lb.1) (by rw [e6]; exact lb.2) (k1 := 5) (fun j hj => ?_)) (fun r q e => R2.ok (XR.inl e5 e))
  rw [e6, p2 (5 + 2) j (by unfold SPs; omega)]
  exact h.1.tl j hj
/-- a reason, by both -/
theorem SS.why (h : SS M N) (em : rd M 5 13 = Int32.ofNat m) (m2 : m < 2 ^ nb 5 M) (hc : c < 2 * nb 5 M) : R2 (mX2_reasonFor 103 5 (Int32.ofNat m) (Int32.ofNat c) M) (mX7_reasonOf 135 (Int32.ofNat c / (2 : Int32)) (Int32.ofNat c - Int32.ofNat c / (2 : Int32) * (2 : Int32)) (rd N (135 + 1) ((52 : Int32)).toNatClampNeg) N) (fun p q => p.2 = q.2 ∧ SS p.1 q.1 ∧ KS (SPs 103) M p.1 ∧ KS SLy N q.1) := by
  have n8 := nb8 (pr_9 h.1)
  intro p q hp hq
  rw [f_half c (by omega)] at hq
  have f2 := f_mod c (by omega)
  rw [f_half c (by omega)] at f2
  rw [f2] at hq
  refine (SS.reason h em m2 (b := c / 2) (s := c % 2) (by omega) (by omega)) p q ?_ hq
  unfold mX6_reasonNow
  rw [em, show 2 * (c / 2) + c % 2 = c from by omega, hp]
  rfl
theorem two_n (hn : (rd N 136 0).toInt = (n : Int)) (h8 : n ≤ 8) : ((2 : Int32) * rd N 136 0).toInt = 2 * (n : Int) := by
  rw [i_mulc (c := 2) rfl (by omega) (by omega), hn]
theorem two_o (h8 : n ≤ 8) : ((2 : Int32) * Int32.ofNat n).toInt = 2 * (n : Int) := by
  rw [i_mulc (c := 2) rfl (by rw [t_of (by omega)]; omega) (by rw [t_of (by omega)]; omega), t_of (by omega)]
theorem o_inc (hc : c < 1000) : Int32.ofNat c + 1 = Int32.ofNat (c + 1) := by
  have tj : (Int32.ofNat c).toInt = (c : Int) := t_of (by omega)
  have n1 : ((1 : Int32)).toInt = 1 := rfl
  rw [i_eq, i_add (by omega) (by omega), tj, t_of (by omega)]; omega
theorem SS.k103 (h : KS (SPs 103) M M') : (∀ j, rd M' 5 j = rd M 5 j) ∧ nb 5 M' = nb 5 M := by
  have e : ∀ j, rd M' 5 j = rd M 5 j := fun j => h 5 j (by unfold SPs; omega)
  exact ⟨e, by unfold nb; rw [e]⟩
theorem an_refused (h : SS M N) (hI : MI N) : R2 (mX6_refused 0 x1 M) (mX7_refused 135 x1 N) (XR (fun _ => 1)) := by
  have l1 : ((1 : Int32)).toInt = 1 := rfl
  have l6 : ((6 : Int32)).toInt = 6 := rfl
  have bad : ∀ r2 : Int32, r2 = 0 → R2 (some (M, (Sum.inr 0 : Int32 ⊕ Nat))) (cal (mX7_good 135 r2 N) (fun M6 r5 => ite2 (r5 = 0) (some (M6, (0 : Int32))) (mX7_refused_l22 135 5000 x1 (0 : Int32) (0 : Int32) M6))) (XR (fun _ => 1)) := fun r2 e => (R2.bad1 (num := fun _ => 1) e rfl h).mono (fun p q z => z.1)
  obtain ⟨m, m2, em, hR⟩ := row_at hI h.1
  have lp : ∀ (f1 f2 c : Nat) (acc : Int32) (M1 N1 : Mem), SS M1 N1 → rd M1 5 13 = Int32.ofNat m → m < 2 ^ nb 5 M1 → rd N1 135 5 = 0 → c ≤ 2 * nb 5 M1 → R2 (mX6_refused_l25 0 f1 x1 acc (Int32.ofNat c) M1) (mX7_refused_l22 135 f2 x1 acc (Int32.ofNat c) N1) (XR (fun _ => 1)) := by
    intro f1
    induction f1 with
    | zero => intro f2 c acc M1 N1 _ _ _ _ _; exact R2.nl
    | succ f1 IH =>
      intro f2 c acc M1 N1 hS e1 h2 h0 hc
      cases f2 with
      | zero => exact R2.nr
      | succ f2 =>
        have n8 := nb8 (pr_9 hS.1)
        have hn : (rd N1 136 0).toInt = (nb 5 M1 : Int) := hS.1.pb.bn
        unfold mX6_refused_l25 mX7_refused_l22 mX6_refused_b25 mX7_refused_b22 mX6_refused_b50 mX7_refused_b61 mX6_reasonNow
        refine R2.cl (pc_bends (pr_9 hS.1)) (fun r4 e4 => ?_)
        subst e4
        have c1 : ((2 : Int32) * Int32.ofNat (nb 5 M1) ≤ Int32.ofNat c) ↔ (2 * nb 5 M1 ≤ c) := by rw [i_le, two_o n8, t_of (by omega)]; omega
        have c2 : ((2 : Int32) * (rd N1 (135 + 1) ((0 : Int32)).toNatClampNeg) ≤ Int32.ofNat c) ↔ (2 * nb 5 M1 ≤ c) := by
          show (2 : Int32) * rd N1 136 0 ≤ _ ↔ _
          rw [i_le, two_n hn n8, t_of (by omega)]; omega
        refine R2.kr (fun _ => R2.il (fun z => R2.ir (fun _ => R2.ok (XR.inl h0 rfl)) (fun z2 => absurd (c2.mpr (c1.mp z)) z2)) (fun z => R2.ir (fun z2 => absurd (c1.mpr (c2.mp z2)) z) (fun _ => R2.kr (fun _ => ?_))))
        have hc2 : c < 2 * nb 5 M1 := by
          rcases Nat.lt_or_ge c (2 * nb 5 M1) with q | q
          · exact q
          · exact absurd (c1.mpr q) z
        rw [cal_cal, e1]
        refine R2.mm (hS.why e1 h2 hc2) (fun M9 r8 N9 r9 p => ?_)
        obtain ⟨p1, p2, p3, p4⟩ := p
        have p1 : r8 = r9 := p1
        obtain ⟨k5, kn⟩ := SS.k103 p3
        have z5 : rd N9 135 5 = 0 := (p4 135 5 (by unfold SLy; omega)).trans h0
        have e13 : rd M9 5 13 = Int32.ofNat m := (k5 13).trans e1
        have k5 : ∀ (ac : Int32), R2 (mX6_refused_l25 0 f1 x1 ac (Int32.ofNat (c + 1)) M9) (mX7_refused_l22 135 f2 x1 ac (Int32.ofNat (c + 1)) N9) (XR (fun _ => 1)) := fun ac => IH f2 (c + 1) ac M9 N9 p2 e13 (by rw [kn]; exact h2) z5 (by rw [kn]; omega)
        rw [cal_some, p1]
        refine R2.il (fun d => R2.ir (fun _ => ?_) (fun d2 => absurd d d2)) (fun d => R2.ir (fun d2 => absurd d2 d) (fun _ => ?_))
        · refine R2.bl (fun ac ea => R2.bl (fun j ej => R2.br (fun ac2 ea2 => R2.br (fun j2 ej2 => ?_))))
          rw [ea, ej, ea2, ej2, o_inc (by omega)]
          exact k5 _
        · refine R2.bl (fun j ej => R2.br (fun ac2 ea2 => R2.br (fun j2 ej2 => ?_)))
          rw [ej, ea2, ej2, o_inc (by omega), Int32.add_zero]
          exact k5 _
  unfold mX6_refused mX7_refused mX6_refused_b11
  refine R2.cr (pc_btw (Int32.toInt_toInt64 _) (b := 1) (by decide) (c := 6) (by decide)) (fun r2 p2 => ?_)
  refine R2.il (fun c => bad r2 ?_) (fun c => R2.il (fun c2 => ?_) (fun c2 => bad r2 ?_))
  · have c := i_lt.mp c
    rcases p2 with ⟨_, q⟩ | ⟨e, _⟩
    · omega
    · exact e
  · have c := i_nlt c
    have c2 := i_le.mp c2
    have e2 : ¬ r2 = 0 := by
      rcases p2 with ⟨e, _⟩ | ⟨_, q⟩
      · rw [e]; decide
      · exact absurd ⟨by omega, by omega⟩ q
    exact R2.ok1 e2 (lp 5000 5000 0 0 M _ h.th em m2 rd_we (by omega))
  · have c := i_nlt c
    have c2 := i_nle c2
    rcases p2 with ⟨_, q⟩ | ⟨e, _⟩
    · omega
    · exact e
theorem an_possible (h : SS M N) (hI : MI N) : R2 (mX6_possible 0 M) (mX7_possible 135 N) (fun p q => p.2 = q.2) := by
  obtain ⟨m, m2, em, hR⟩ := row_at hI h.1
  have lp : ∀ (f1 f2 c : Nat) (acc : Int32) (M1 N1 : Mem), SS M1 N1 → rd M1 5 13 = Int32.ofNat m → m < 2 ^ nb 5 M1 → c ≤ 2 * nb 5 M1 → R2 (mX2_possibleSteps_l5 103 5 f1 (Int32.ofNat m) acc (Int32.ofNat c) M1) (mX7_possible_l9 135 f2 acc (Int32.ofNat c) N1) (fun p q => p.2 = q.2) := by
    intro f1
    induction f1 with
    | zero => intro f2 c acc M1 N1 _ _ _ _; exact R2.nl
    | succ f1 IH =>
      intro f2 c acc M1 N1 hS e1 h2 hc
      cases f2 with
      | zero => exact R2.nr
      | succ f2 =>
        have n8 := nb8 (pr_9 hS.1)
        have hn : (rd N1 136 0).toInt = (nb 5 M1 : Int) := hS.1.pb.bn
        unfold mX2_possibleSteps_l5 mX7_possible_l9 mX2_possibleSteps_b5 mX7_possible_b9 mX2_possibleSteps_b34 mX7_possible_b49
        refine R2.cl (pc_bends (pr_9 hS.1)) (fun r4 e4 => ?_)
        subst e4
        have c1 : ((2 : Int32) * Int32.ofNat (nb 5 M1) ≤ Int32.ofNat c) ↔ (2 * nb 5 M1 ≤ c) := by rw [i_le, two_o n8, t_of (by omega)]; omega
        have c2 : ((2 : Int32) * (rd N1 (135 + 1) ((0 : Int32)).toNatClampNeg) ≤ Int32.ofNat c) ↔ (2 * nb 5 M1 ≤ c) := by
          show (2 : Int32) * rd N1 136 0 ≤ _ ↔ _
          rw [i_le, two_n hn n8, t_of (by omega)]; omega
        refine R2.kr (fun _ => R2.il (fun z => R2.ir (fun _ => R2.ok rfl) (fun z2 => absurd (c2.mpr (c1.mp z)) z2)) (fun z => R2.ir (fun z2 => absurd (c1.mpr (c2.mp z2)) z) (fun _ => R2.kr (fun _ => ?_))))
        have hc2 : c < 2 * nb 5 M1 := by
          rcases Nat.lt_or_ge c (2 * nb 5 M1) with q | q
          · exact q
          · exact absurd (c1.mpr q) z
        refine R2.mm (hS.why e1 h2 hc2) (fun M9 r8 N9 r9 p => ?_)
        obtain ⟨p1, p2, p3, p4⟩ := p
        have p1 : r8 = r9 := p1
        obtain ⟨k5, kn⟩ := SS.k103 p3
        have e13 : rd M9 5 13 = Int32.ofNat m := (k5 13).trans e1
        have k5 : ∀ (ac : Int32), R2 (mX2_possibleSteps_l5 103 5 f1 (Int32.ofNat m) ac (Int32.ofNat (c + 1)) M9) (mX7_possible_l9 135 f2 ac (Int32.ofNat (c + 1)) N9) (fun p q => p.2 = q.2) := fun ac => IH f2 (c + 1) ac M9 N9 p2 e13 (by rw [kn]; exact h2) (by rw [kn]; omega)
        rw [p1]
        refine R2.il (fun d => R2.ir (fun _ => ?_) (fun d2 => absurd d d2)) (fun d => R2.ir (fun d2 => absurd d2 d) (fun _ => ?_))
        · refine R2.bl (fun ac ea => R2.bl (fun j ej => R2.br (fun ac2 ea2 => R2.br (fun j2 ej2 => ?_))))
          rw [ea, ej, ea2, ej2, o_inc (by omega)]
          exact k5 _
        · refine R2.bl (fun j ej => R2.br (fun ac2 ea2 => R2.br (fun j2 ej2 => ?_)))
          rw [ej, ea2, ej2, o_inc (by omega), Int32.or_zero]
          exact k5 _
  unfold mX6_possible mX7_possible mX2_possibleSteps
  refine R2.br (fun N1 e1 => ?_)
  subst e1
  rw [em]
  intro p q hp hq
  obtain ⟨M3, r2, p1, p2⟩ := cal_s hp
  cases p2
  exact lp 5000 5000 0 0 M _ h.th em m2 (by omega) _ q p1 hq
end TH
