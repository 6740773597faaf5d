/-! the answers of the class when nothing is made -/
section ANx
variable {M : Mem} {L : List Nat} {b s nb : Nat} {fl mo : Nat}
theorem f_orc : ∀ m c : Nat, m < 512 → c < 10 → (Int32.ofNat m ||| ((1 : Int32) <<< (Int32.ofNat c &&& 31))) = Int32.ofNat (m ||| 2 ^ c) := by
  have key : ∀ m, m < 512 → ∀ c, c < 10 → (Int32.ofNat m ||| ((1 : Int32) <<< (Int32.ofNat c &&& 31))) = Int32.ofNat (m ||| 2 ^ c) := by decide +kernel
  exact fun m c hm hc => key m hm c hc
theorem Pc.cx {ρ σ : Type} {x : Option (Mem × (ρ ⊕ Nat))} {k : Mem → ρ → Option (Mem × (σ ⊕ Nat))} {Q : Mem → ρ → Prop} {P : Mem × (σ ⊕ Nat) → Prop} (h : Pc x (fun q => ∃ r, q.2 = Sum.inl r ∧ Q q.1 r)) (hk : ∀ M r, Q M r → Pc (k M r) P) : Pc (calx x k) P := by
  match x, h with
  | none, _ => exact Pc.n
  | some (M, .inl r), h =>
    obtain ⟨r', e, hq⟩ := h _ rfl
    injection e with e
    subst e
    exact hk M r hq
  | some (M, .inr e), h =>
    obtain ⟨r', e', -⟩ := h _ rfl
    cases e'
theorem Pc.eq {α : Type} {x : Option α} {a : α} {P : α → Prop} (e : x = some a) (h : P a) : Pc x P := by rw [e]; exact Pc.ok h
/-- a part on which nothing is made: legs, tools -/
def NM0 (L : List Nat) (fl mo : Nat) (M : Mem) : Prop := LPp L M ∧ rd M 5 13 = 0 ∧ rd M 5 14 = 0 ∧ rd M 7 6 = 0 ∧ rd M 7 7 = Int32.ofNat mo ∧ rd M 7 8 = Int32.ofNat fl
theorem NM0.ks {M' : Mem} (h : NM0 L fl mo M) (hk : KS (SPs 103) M M') : NM0 L fl mo M' := by
  obtain ⟨h1, h2, h3, h4, h5, h6⟩ := h
  have e : ∀ c j, c < 100 → rd M' c j = rd M c j := fun c j hc => hk c j (fun q => by rcases q with q | q <;> omega)
  exact ⟨h1.ks hk, (e _ _ (by decide)).trans h2, (e _ _ (by decide)).trans h3, (e _ _ (by decide)).trans h4, (e _ _ (by decide)).trans h5, (e _ _ (by decide)).trans h6⟩
theorem e_bc (hP : LPp L M) (hl : L.length = nb + 1) (hn : nb ≤ 5) : mX1_bendCount 5 M = some (Int32.ofNat nb) := by
  unfold mX1_bendCount
  rw [hP.1, hl, ite_n (fun q => by have := i_le.mp q; rw [t_of (by omega), Int32.toInt_zero] at this; omega)]
  congr 1
  rw [i_eq, i_sub (by rw [t_of (by omega)]; show _ ≤ _ - (1 : Int); omega) (by rw [t_of (by omega)]; show _ - (1 : Int) ≤ _; omega), t_of (by omega), t_of (by omega)]
  show ((nb + 1 : Nat) : Int) - 1 = _
  omega
theorem e_reqBend (hP : LPp L M) (hl : L.length = nb + 1) (hn : nb ≤ 5) (hb : b < nb) : mX6_requireBend 0 (Int32.ofNat b) M = some (M, Sum.inl ()) := by
  unfold mX6_requireBend
  rw [ite_n (fun q => by have := i_lt.mp q; rw [t_of (by omega), Int32.toInt_zero] at this; omega), e_bc hP hl hn, cap_e, ite_n (fun q => by have := i_le.mp q; rw [t_of (by omega), t_of (by omega)] at this; omega), ite_p (i_lt.mpr (by rw [t_of (by omega)]; show _ < (8 : Int); omega))]
theorem e_reqLeg (hP : LPp L M) (hl : L.length = nb + 1) (hn : nb ≤ 5) {j : Nat} (hj : j ≤ nb) : mX6_requireLeg 0 (Int32.ofNat j) M = some (M, Sum.inl ()) := by
  unfold mX6_requireLeg
  rw [ite_n (fun q => by have := i_lt.mp q; rw [t_of (by omega), Int32.toInt_zero] at this; omega), hP.1, ite_n (fun q => by have := i_le.mp q; rw [t_of (by omega), t_of (by omega)] at this; omega), ite_p (i_lt.mpr (by rw [t_of (by omega)]; show _ < (9 : Int); omega))]
theorem e_reqCh (hs : s < 2) : mX6_requireChoice (Int32.ofNat s) (1 : Int32) M = some (M, Sum.inl ()) := by
  unfold mX6_requireChoice
  rw [ite_n (fun q => by have := i_lt.mp q; rw [t_of (by omega), Int32.toInt_zero] at this; omega), ite_p (i_le.mpr (by rw [t_of (by omega)]; show _ ≤ (1 : Int); omega))]
theorem e_reqStep (hP : LPp L M) (hl : L.length = nb + 1) (hn : nb ≤ 5) (hb : b < nb) (hs : s < 2) : mX6_requireStep 0 (Int32.ofNat b) (Int32.ofNat s) M = some (M, Sum.inl ()) := by
  unfold mX6_requireStep
  rw [e_reqBend hP hl hn hb, calx_i, e_reqCh hs, calx_i]
theorem e_code (hb : b < 6) (hs : s < 2) : ((2 : Int32) * Int32.ofNat b) + Int32.ofNat s = Int32.ofNat (2 * b + s) := by
  have e1 := i_mulc (a := (2 : Int32)) (b := Int32.ofNat b) (c := 2) rfl (by rw [t_of (by omega)]; omega) (by rw [t_of (by omega)]; omega)
  rw [i_eq, i_add (by rw [e1, t_of (by omega), t_of (by omega)]; omega) (by rw [e1, t_of (by omega), t_of (by omega)]; omega), e1, t_of (by omega), t_of (by omega), t_of (by omega)]
  omega
theorem p_gaugeNow (h : Ln L) (hl : L.length = nb + 1) (hb : b < nb) (hs : s < 2) (hN : NM0 L fl mo M) : Pc (mX6_gaugeNow 0 (Int32.ofNat (2 * b + s)) M) (fun q => q.2 = Int32.ofNat (bkR L b s) ∧ KS (SPs 103) M q.1) := by
  unfold mX6_gaugeNow
  rw [hN.2.1]
  refine Pc.m (pc_lay h (by omega) hs hN.1) (fun M3 _ ⟨l3, k3⟩ => Pc.c (pc_reach h (by omega) l3) (fun r hr => Pc.ok ⟨hr, k3⟩))
theorem p_gauge (h : Ln L) (hl : L.length = nb + 1) (hn : nb ≤ 5) (hb : b < nb) (hs : s < 2) (hN : NM0 L fl mo M) : Pc (mX6_gauge 0 (Int32.ofNat b) (Int32.ofNat s) M) (fun q => q.2 = Sum.inl (Int32.ofNat (bkR L b s)) ∧ KS (SPs 103) M q.1) := by
  unfold mX6_gauge
  rw [e_reqStep hN.1 hl hn hb hs, calx_i, e_code (by omega) hs]
  exact Pc.m (p_gaugeNow h hl hb hs hN) (fun M7 r ⟨e, k⟩ => Pc.ok ⟨congrArg Sum.inl e, k⟩)
theorem p_top (h : Ln L) (hl : L.length = nb + 1) (hn : nb ≤ 5) (hb : b < nb) (hs : s < 2) (hN : NM0 L fl mo M) : Pc (mX6_top 0 (Int32.ofNat b) (Int32.ofNat s) M) (fun q => q.2 = Sum.inl (Int32.ofNat (upR L b s)) ∧ KS (SPs 103) M q.1) := by
  unfold mX6_top
  rw [e_reqStep hN.1 hl hn hb hs, calx_i, e_code (by omega) hs, hN.2.1]
  exact Pc.m (pc_lay h (by omega) hs hN.1) (fun M7 _ ⟨l7, k7⟩ => Pc.c (pc_topS h (by omega) l7) (fun r hr => Pc.ok ⟨congrArg Sum.inl hr, k7⟩))
theorem p_hitting (h : Ln L) (hl : L.length = nb + 1) (hn : nb ≤ 5) (hb : b < nb) (hs : s < 2) (hN : NM0 L fl mo M) : Pc (mX6_hitting 0 (Int32.ofNat b) (Int32.ofNat s) M) (fun q => q.2 = Sum.inl 0 ∧ KS (SPs 103) M q.1) := by
  unfold mX6_hitting
  rw [e_reqStep hN.1 hl hn hb hs, calx_i, e_code (by omega) hs, hN.2.1]
  exact Pc.m (pc_lay h (by omega) hs hN.1) (fun M7 _ ⟨l7, k7⟩ => Pc.c (pc_hits0 h (by omega) l7) (fun r hr => Pc.ok ⟨congrArg Sum.inl hr, k7⟩))
theorem p_corner (h : Ln L) (hl : L.length = nb + 1) (hn : nb ≤ 5) (hb : b < nb) (hs : s < 2) {j w : Nat} (hj : j ≤ nb) (hw : w < 2) (hN : NM0 L fl mo M) : Pc (mX6_corner 0 (Int32.ofNat b) (Int32.ofNat s) (Int32.ofNat j) (Int32.ofNat w) M) (fun q => (∃ v : Int32, q.2 = Sum.inl v ∧ v.toInt = (if w = 0 then (if cb b s j then -(fa L b j : Int) else 0) else (if cb b s j then 0 else (fa L b j : Int)))) ∧ KS (SPs 103) M q.1) := by
  unfold mX6_corner
  rw [e_reqBend hN.1 hl hn hb, calx_i, e_reqLeg hN.1 hl hn hj, calx_i, e_reqCh hs, calx_i, e_reqCh hw, calx_i, e_code (by omega) hs, hN.2.1]
  refine Pc.m (pc_lay h (by omega) hs hN.1) (fun M7 _ ⟨l7, k7⟩ => ?_)
  obtain ⟨q1, q2, -⟩ := l7.1 j (by omega)
  have hw2 : w = 0 ∨ w = 1 := by omega
  rcases hw2 with rfl | rfl
  · refine Pc.i (fun _ => Pc.k (fun _ => Pc.ok ⟨⟨_, rfl, ?_⟩, k7⟩)) (fun z => absurd rfl z)
    rw [c_of (by omega)]; exact q1
  · refine Pc.i (fun z => absurd z (by decide)) (fun _ => Pc.k (fun _ => Pc.ok ⟨⟨_, rfl, ?_⟩, k7⟩))
    rw [c_of (by omega)]; exact q2
/-- why a step is refused -/
def rsn (L : List Nat) (fl mo b s : Nat) : Nat := if L.getD (if s = 0 then b + 1 else b) 0 < fl then 2 else if mo < bkR L b s then 3 else 0
theorem rsn_b : rsn L fl mo b s < 10 := by
  unfold rsn
  generalize L.getD (if s = 0 then b + 1 else b) 0 = v
  split
  · omega
  · split <;> omega
theorem bkR_b (h : Ln L) (hb : b + 1 < L.length) : bkR L b s ≤ 4200 := by
  have h2 := ps_b h (b + 1) (by omega)
  have h3 := ps_b h L.length (Nat.le_refl _)
  have h4 := h.1
  unfold bkR
  split <;> omega
theorem p_reasonFor (h : Ln L) (hl : L.length = nb + 1) (hb : b < nb) (hs : s < 2) (hfl : fl < 10000) (hmo : mo < 10000) (hN : NM0 L fl mo M) : Pc (mX2_reasonFor 103 5 (0 : Int32) (Int32.ofNat (2 * b + s)) M) (fun q => q.2 = Int32.ofNat (rsn L fl mo b s) ∧ KS (SPs 103) M q.1) := by
  have h6 := h.1
  have hbb := bkR_b (s := s) h (by omega : b + 1 < L.length)
  have go : ∀ j : Nat, j < L.length → (j = if s = 0 then b + 1 else b) → Pc (mX2_reasonFor_b20 103 5 (0 : Int32) (Int32.ofNat (2 * b + s)) (Int32.ofNat b) (Int32.ofNat j) M) (fun q => q.2 = Int32.ofNat (rsn L fl mo b s) ∧ KS (SPs 103) M q.1) := by
    intro j hj ej
    have hv := h.at hj
    have er : rsn L fl mo b s = if L.getD j 0 < fl then 2 else if mo < bkR L b s then 3 else 0 := by unfold rsn; rw [← ej]
    unfold mX2_reasonFor_b20
    refine Pc.i (fun _ => Pc.i (fun c => ?_) (fun _ => Pc.i (fun c => ?_) (fun _ => Pc.k (fun _ => Pc.k (fun _ => Pc.i (fun c => ?_) (fun c => Pc.ok ⟨?_, KS.rf⟩)))))) (fun z => ?_)
    · have := i_lt.mp c
      rw [t_of (by omega), Int32.toInt_zero] at this
      omega
    · have := i_le.mp c
      rw [t_of (by omega), show ((9 : Int32)).toInt = 9 from rfl] at this
      omega
    · have c := i_le.mp c
      rw [show rd M (5 + 2) ((8 : Int32)).toNatClampNeg = _ from hN.2.2.2.2.2, c_of (by omega), show rd M (5 + 1) j = _ from hN.1.2 j hj, t_of (by omega), t_of (by omega)] at c
      rw [er, if_neg (by omega)]
      refine Pc.m (pc_lay h (by omega) hs hN.1) (fun M11 _ ⟨l11, k11⟩ => Pc.c (pc_reach h (by omega) l11) (fun r hr => ?_))
      have N11 := hN.ks k11
      subst hr
      refine Pc.k (fun _ => Pc.i (fun c2 => ?_) (fun _ => Pc.k (fun _ => Pc.i (fun c2 => ?_) (fun c2 => Pc.ok ⟨?_, k11⟩))))
      · have c2 := i_lt.mp c2
        rw [show rd M11 (5 + 2) ((6 : Int32)).toNatClampNeg = _ from N11.2.2.2.1, t_of (by omega), Int32.toInt_zero] at c2
        omega
      · have c2 := i_le.mp c2
        rw [show rd M11 (5 + 2) ((7 : Int32)).toNatClampNeg = _ from N11.2.2.2.2.1, t_of (by omega), t_of (by omega)] at c2
        rw [if_neg (by omega)]
        refine Pc.c (pc_hits0 h (by omega) l11) (fun r hr => Pc.b (fun x ex => ?_))
        subst hr
        refine Pc.i (fun _ => Pc.i (fun _ => Pc.c (pc_crs0 h (by omega) l11) (fun r hr => ?_)) (fun z => absurd rfl z)) (fun z => ?_)
        · subst hr
          exact Pc.i (fun _ => Pc.ok ⟨rfl, k11⟩) (fun z => absurd rfl z)
        · exact absurd (by rw [Int32.zero_and]) z
      · have c2 := i_nle c2
        rw [show rd M11 (5 + 2) ((7 : Int32)).toNatClampNeg = _ from N11.2.2.2.2.1, t_of (by omega), t_of (by omega)] at c2
        rw [if_pos (by omega)]; rfl
    · have c := i_nle c
      rw [show rd M (5 + 2) ((8 : Int32)).toNatClampNeg = _ from hN.2.2.2.2.2, c_of (by omega), show rd M (5 + 1) j = _ from hN.1.2 j hj, t_of (by omega), t_of (by omega)] at c
      rw [er, if_pos (by omega)]; rfl
    · exfalso
      apply z
      have := (f_has0 0 (by decide) b (by omega)).mpr (Nat.zero_testBit b)
      exact this
  unfold mX2_reasonFor
  rw [f_shr1 (2 * b + s) (by omega), show (2 * b + s) / 2 = b by omega]
  refine Pc.b (fun x ex => ?_)
  subst ex
  rw [f_and1 (2 * b + s) (by omega), show (2 * b + s) % 2 = s by omega]
  have hs2 : s = 0 ∨ s = 1 := by omega
  rcases hs2 with rfl | rfl
  · refine Pc.i (fun _ => ?_) (fun z => absurd rfl z)
    rw [show Int32.ofNat b + (1 : Int32) = Int32.ofNat (b + 1) from o_add (b := 1) (by omega)]
    exact go (b + 1) (by omega) rfl
  · refine Pc.i (fun z => absurd z (by decide)) (fun _ => ?_)
    exact go b (by omega) rfl
theorem p_reason (h : Ln L) (hl : L.length = nb + 1) (hn : nb ≤ 5) (hb : b < nb) (hs : s < 2) (hfl : fl < 10000) (hmo : mo < 10000) (hN : NM0 L fl mo M) : Pc (mX6_reason 0 (Int32.ofNat b) (Int32.ofNat s) M) (fun q => q.2 = Sum.inl (Int32.ofNat (rsn L fl mo b s)) ∧ KS (SPs 103) M q.1) := by
  unfold mX6_reason mX6_reasonNow
  rw [e_reqStep hN.1 hl hn hb hs, calx_i, e_code (by omega) hs, hN.2.1]
  exact Pc.m (Q := fun q => q.2 = Int32.ofNat (rsn L fl mo b s) ∧ KS (SPs 103) M q.1) (Pc.m (p_reasonFor h hl hb hs hfl hmo hN) (fun M3 r hq => Pc.ok hq)) (fun M7 r ⟨e, k⟩ => Pc.ok ⟨congrArg Sum.inl e, k⟩)
theorem p_costNow (h : Ln L) (hl : L.length = nb + 1) (hb : b < nb) (hs : s < 2) (hN : NM0 L fl mo M) : Pc (mX6_costNow 0 (Int32.ofNat (2 * b + s)) M) (fun q => q.2 = 0 ∧ KS (SPs 103) M q.1) := by
  unfold mX6_costNow mX1_lastCode
  rw [hN.2.2.1, ite_p (by decide), cap_e]
  refine Pc.c (Pc.self _) (fun r _ => Pc.m (p_gaugeNow h hl hb hs hN) (fun M9 r8 ⟨_, k9⟩ => ?_))
  unfold mX1_priceBetween
  rw [ite_p rfl, cap_e]
  exact Pc.ok ⟨rfl, k9⟩
theorem p_costOf (h : Ln L) (hl : L.length = nb + 1) (hn : nb ≤ 5) (hb : b < nb) (hs : s < 2) (hN : NM0 L fl mo M) : Pc (mX6_costOf 0 (Int32.ofNat b) (Int32.ofNat s) M) (fun q => q.2 = Sum.inl 0 ∧ KS (SPs 103) M q.1) := by
  unfold mX6_costOf
  rw [e_reqStep hN.1 hl hn hb hs, calx_i, e_code (by omega) hs]
  exact Pc.m (p_costNow h hl hb hs hN) (fun M7 r ⟨e, k⟩ => Pc.ok ⟨congrArg Sum.inl e, k⟩)
/-- which steps are possible, as bits -/
theorem p_poss_l (h : Ln L) (hl : L.length = nb + 1) (hn : nb ≤ 5) (hfl : fl < 10000) (hmo : mo < 10000) : ∀ (n c m : Nat) (M0 M : Mem), KS (SPs 103) M0 M → NM0 L fl mo M → c ≤ 2 * nb → m < 2 ^ c → (∀ i, i < c → (m.testBit i = true ↔ rsn L fl mo (i / 2) (i % 2) = 0)) → Pc (mX2_possibleSteps_l5 103 5 n (0 : Int32) (Int32.ofNat m) (Int32.ofNat c) M) (fun q => KS (SPs 103) M0 q.1 ∧ ∃ m : Nat, q.2 = Int32.ofNat m ∧ m < 2 ^ (2 * nb) ∧ ∀ i, i < 2 * nb → (m.testBit i = true ↔ rsn L fl mo (i / 2) (i % 2) = 0)) := by
  intro n
  induction n with
  | zero => intro c m M0 M _ _ _ _ _; exact Pc.n
  | succ n IH =>
    intro c m M0 M k0 hN hc hm hbits
    show Pc (mX2_possibleSteps_b5 103 5 (mX2_possibleSteps_l5 103 5 n) (0 : Int32) (Int32.ofNat m) (Int32.ofNat c) M) _
    unfold mX2_possibleSteps_b5
    rw [e_bc hN.1 hl hn, cap_e]
    have e2 : ((2 : Int32) * Int32.ofNat nb).toInt = 2 * (nb : Int) := by
      rw [i_mulc (c := 2) rfl (by rw [t_of (by omega)]; omega) (by rw [t_of (by omega)]; omega), t_of (by omega)]
    refine Pc.i (fun q => Pc.ok ?_) (fun q => ?_)
    · have q := i_le.mp q
      rw [e2, t_of (by omega)] at q
      have ec : c = 2 * nb := by omega
      subst ec
      exact ⟨k0, m, rfl, hm, hbits⟩
    · have q := i_nle q
      rw [e2, t_of (by omega)] at q
      have hc : c < 2 * nb := by omega
      have e1 : Int32.ofNat c + (1 : Int32) = Int32.ofNat (c + 1) := o_add (b := 1) (by omega)
      have hr := p_reasonFor (b := c / 2) (s := c % 2) h hl (by omega) (by omega) hfl hmo hN
      rw [show 2 * (c / 2) + c % 2 = c by omega] at hr
      have h1024 : 2 ^ c ≤ 2 ^ 9 := Nat.pow_le_pow_right (by decide) (by omega)
      refine Pc.m hr (fun M7 r ⟨er, k7⟩ => ?_)
      have er : r = Int32.ofNat (rsn L fl mo (c / 2) (c % 2)) := er
      subst er
      have hrb : rsn L fl mo (c / 2) (c % 2) < 10 := rsn_b
      have hz : Int32.ofNat (rsn L fl mo (c / 2) (c % 2)) = 0 ↔ rsn L fl mo (c / 2) (c % 2) = 0 := by
        rw [i_eq, t_of (by omega), Int32.toInt_zero]; omega
      have stepT : ∀ i, i < c + 1 → (rsn L fl mo (c / 2) (c % 2) = 0) → ((m ||| 2 ^ c).testBit i = true ↔ rsn L fl mo (i / 2) (i % 2) = 0) := by
        intro i hi h0
        rw [Nat.testBit_or]
        by_cases e : i = c
        · subst e; rw [Nat.testBit_two_pow_self]; simp [h0]
        · rw [Nat.testBit_two_pow_of_ne (by omega), Bool.or_false]; exact hbits i (by omega)
      have stepF : ∀ i, i < c + 1 → ¬ (rsn L fl mo (c / 2) (c % 2) = 0) → (m.testBit i = true ↔ rsn L fl mo (i / 2) (i % 2) = 0) := by
        intro i hi h0
        by_cases e : i = c
        · subst e; rw [Nat.testBit_lt_two_pow hm]; exact ⟨fun z => absurd z (by decide), fun z => absurd z h0⟩
        · exact hbits i (by omega)
      have hm2 : m < 2 ^ (c + 1) := by rw [Nat.pow_succ]; omega
      unfold mX2_possibleSteps_b34
      refine Pc.i (fun z => Pc.b (fun x ex => Pc.b (fun y ey => ?_))) (fun z => Pc.b (fun y ey => ?_))
      · rw [ey, e1, ex, f_orc m c (by omega) (by omega)]
        exact IH (c + 1) (m ||| 2 ^ c) M0 M7 (k0.trans k7) (hN.ks k7) (by omega) (Nat.or_lt_two_pow hm2 (Nat.pow_lt_pow_right (by decide) (by omega))) (fun i hi => stepT i hi (hz.mp z))
      · rw [ey, e1]
        exact IH (c + 1) m M0 M7 (k0.trans k7) (hN.ks k7) (by omega) hm2 (fun i hi => stepF i hi (fun q => z (hz.mpr q)))
theorem p_possible (h : Ln L) (hl : L.length = nb + 1) (hn : nb ≤ 5) (hfl : fl < 10000) (hmo : mo < 10000) (hN : NM0 L fl mo M) : Pc (mX6_possible 0 M) (fun q => KS (SPs 103) M q.1 ∧ ∃ m : Nat, q.2 = Int32.ofNat m ∧ m < 2 ^ (2 * nb) ∧ ∀ i, i < 2 * nb → (m.testBit i = true ↔ rsn L fl mo (i / 2) (i % 2) = 0)) := by
  unfold mX6_possible mX2_possibleSteps
  rw [hN.2.1]
  exact Pc.m (p_poss_l h hl hn hfl hmo 5000 0 0 M M KS.rf hN (by omega) (by decide) (fun i hi => absurd hi (by omega))) (fun M3 r hq => Pc.ok hq)
end ANx
