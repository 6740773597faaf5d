/-! the plan: alike -/
def bco (n : Nat) (N : Mem) (a l c : Nat) : Prop := c < 2 * n ∧ cnb N a c = true ∧ 0 < mn N (a ||| 2 ^ (c / 2)) ∧ cst N a l c + rd N (135 + 13) (17 * (a ||| 2 ^ (c / 2)) + c) = rd N (135 + 13) (17 * a + l)
/-- the smallest step of a best order -/
def bst (n : Nat) (N : Mem) (a l c : Nat) : Prop := bco n N a l c ∧ ∀ c', c' < c → ¬ bco n N a l c'
def RCh (n : Nat) (N : Mem) : Nat → Nat → Nat → Nat → Prop
  | 0, a, l, c => bst n N a l c
  | i + 1, a, l, c => ∃ c1, bst n N a l c1 ∧ RCh n N i (a ||| 2 ^ (c1 / 2)) c1 c
section P2
variable {g : Gm} {k m n a b c l : Nat} {M N N0 : Mem} {lc lg r : Int32}
theorem bst_u {c c' : Nat} (h : bst n N a l c) (h' : bst n N a l c') : c = c' := by
  by_cases q : c < c'
  · exact absurd h.1 (h'.2 c q)
  · by_cases q2 : c' < c
    · exact absurd h'.1 (h.2 c' q2)
    · omega
theorem RCh.u : ∀ i a l c c', RCh n N i a l c → RCh n N i a l c' → c = c' := by
  intro i
  induction i with
  | zero => intro a l c c' h h'; exact bst_u h h'
  | succ i IH =>
    intro a l c c' h h'
    obtain ⟨c1, h1, h2⟩ := h
    obtain ⟨c2, h3, h4⟩ := h'
    have e := bst_u h1 h3
    subst e
    exact IH _ _ _ _ h2 h4
theorem pc_bestR (hN : NM n m N) (hK : OKm g N) (ha : a < 2 ^ n) (hl : l ≤ 16) (hO : LOp n N0 N a (2 * n)) : Pc (mX7_bestStep 135 (Int32.ofNat a) (Int32.ofNat l) N) (fun r => (∃ c, r = Int32.ofNat c ∧ bst n N a l c) ∨ (r = -1 ∧ ∀ c, ¬ bco n N a l c)) := by
  have hn := hN.2.1
  have hp := z_pow n hn
  have key : ∀ (fuel c : Nat), c ≤ 2 * n → (∀ c', c' < c → ¬ bco n N a l c') → Pc (mX7_bestStep_l2 135 N fuel (Int32.ofNat a) (Int32.ofNat l) (Int32.ofNat c)) (fun r => (∃ c, r = Int32.ofNat c ∧ bst n N a l c) ∨ (r = -1 ∧ ∀ c, ¬ bco n N a l c)) := by
    intro fuel
    induction fuel with
    | zero => intro c _ _ q e; cases e
    | succ fuel IH =>
      intro c hc hno
      show Pc (mX7_bestStep_b2 135 N (mX7_bestStep_l2 135 N fuel) (Int32.ofNat a) (Int32.ofNat l) (Int32.ofNat c)) _
      unfold mX7_bestStep_b2
      have nx : ¬ bco n N a l c → c < 2 * n → Pc (mX7_bestStep_b125 135 N (mX7_bestStep_l2 135 N fuel) (Int32.ofNat a) (Int32.ofNat l) (Int32.ofNat c)) (fun r => (∃ c, r = Int32.ofNat c ∧ bst n N a l c) ∨ (r = -1 ∧ ∀ c, ¬ bco n N a l c)) := by
        intro h1 h2
        unfold mX7_bestStep_b125
        refine Pc.b (fun x ex => ?_)
        have e : x = Int32.ofNat (c + 1) := by rw [ex]; exact (Int32.ofNat_add c 1).symm
        rw [e]
        refine IH (c + 1) (by omega) (fun c' hc' => ?_)
        by_cases q : c' = c
        · subst q; exact h1
        · exact hno c' (by omega)
      refine Pc.k (fun _ => Pc.i (fun cc => Pc.ok (Or.inr ⟨rfl, fun c' h => ?_⟩)) (fun cc => Pc.b (fun x4 e4 => ?_)))
      · have cc := i_le.mp cc
        rw [n2_of hN, t_of (by omega)] at cc
        exact hno c' (by have := h.1; omega) h
      · have cc := i_nle cc
        rw [n2_of hN, t_of (by omega)] at cc
        have hc2 : c < 2 * n := by omega
        rw [f_half c (by omega), f_or a (by omega) (c / 2) (by omega)] at e4
        subst e4
        rw [ix16c (by omega) (by omega)]
        refine Pc.k (fun _ => Pc.i (fun q => nx (fun h => ?_) hc2) (fun q => ?_))
        · have h2 := h.2.1
          unfold cnb at h2
          rw [decide_eq_true q] at h2; cases h2
        have ho : cnb N a c = true := by
          unfold cnb
          rw [decide_eq_false q]; rfl
        have hz := z_set n hn a ha (c / 2) (by omega) ((hO.1 c hc2).2 ho)
        rw [c_of (a := a ||| 2 ^ (c / 2)) (by omega)]
        refine Pc.k (fun _ => Pc.i (fun c1 => nx (fun h => lg_pos.mpr h.2.2.1 c1) hc2) (fun c1 => ?_))
        have hmn : 0 < mn N (a ||| 2 ^ (c / 2)) := lg_pos.mp c1
        have b92 : ∀ w : Int32, cstO N (Int32.ofNat a) (Int32.ofNat l) (Int32.ofNat c) = some w → Pc (mX7_bestStep_b92 135 N (mX7_bestStep_l2 135 N fuel) (Int32.ofNat a) (Int32.ofNat l) (Int32.ofNat c) (Int32.ofNat (a ||| 2 ^ (c / 2))) w) (fun r => (∃ c, r = Int32.ofNat c ∧ bst n N a l c) ∨ (r = -1 ∧ ∀ c, ¬ bco n N a l c)) := by
          intro w hw
          have ew : cst N a l c = w := by unfold cst; rw [hw]; rfl
          unfold mX7_bestStep_b92
          rw [ix17c (by omega) (by omega), ix17c (by omega) (by omega)]
          refine Pc.k (fun _ => Pc.k (fun _ => Pc.i (fun c2 => Pc.ok (Or.inl ⟨c, rfl, ⟨hc2, ho, hmn, ?_⟩, hno⟩)) (fun c2 => nx (fun h => c2 ?_) hc2)))
          · rw [ew]; exact c2
          · have h4 := h.2.2.2
            rw [ew] at h4; exact h4
        refine Pc.i (fun e => b92 0 ?_) (fun e => Pc.c (Pc.self _) (fun r22 e22 => Pc.k (fun _ => Pc.c (Pc.self _) (fun r26 e26 => b92 r26 ?_))))
        · unfold cstO ite2
          rw [if_pos e]
        · unfold cstO ite2
          rw [if_neg e, e22]
          show mX7_costBehind _ _ _ _ _ _ _ _ = _
          rw [ix16c (by omega) (by omega)]
          exact e26
  unfold mX7_bestStep
  exact key 5000 0 (by omega) (fun c' h => by omega)
/-- the class's step fits where the reference's does -/
theorem thr_bco (h : CTX g k m M N0 N) (hA : Ald (nb k M) m N 0) (ha : a < 256) (hr : rc M a) (hl : LST k M N a l lc lg) (hrr : 0 ≤ r.toInt) (e : r = rd N (135 + 13) (17 * a + l)) (hc : c < 16) {v : Int32} (hv : mX3_costThrough 110 k (Int32.ofNat a) lc lg (Int32.ofNat c) 1 M = some v) : v = r ↔ bco (nb k M) N a l c := by
  have n8 := nb8 h.2.1
  have nm1 : ((-1 : Int32)).toInt = -1 := rfl
  have hB := h.pb
  have l16 : l ≤ 16 := by rcases hl with ⟨e, _⟩ | ⟨e, _⟩ <;> omega
  have st0 := fun ho => h.1.step n8 ha hr hc ho
  have q := pc_thr (k := k) (lc := lc) (lg := lg) (x6 := 1) ha hc (fun ho => (st0 ho).2.2.2.2.1) v hv
  rw [if_neg (by decide)] at q
  constructor
  · intro ev
    rcases q with ⟨_, q⟩ | ⟨_, _, q⟩ | ⟨ho, hb, p, ep, q⟩
    · rw [← ev, q, nm1] at hrr; omega
    · rw [← ev, q, nm1] at hrr; omega
    · have st := st0 ho
      have hn := h.1.2.2.1 _ st.2.2.2.2.1 st.2.2.2.2.2
      have hk := (h.kb ha hr c st.1 ho).1.resolve_left (fun z => hb z.1)
      have epc := h.prc ha hr hl c st.1 ho p ep
      have eo : cnb N a c = true := by rw [← cu_op h.1 hB h.2.2.2.2.1 ha hr st.1]; exact ho
      have hz8 := (z_full (nb k M) (by omega) (a ||| 2 ^ (c / 2)) st.2.2.2.1).1
      refine ⟨st.1, eo, ?_, ?_⟩
      · have hd := hA (a ||| 2 ^ (c / 2)) (by omega) hn.1 hn.2 c (Or.inr ⟨st.1, (n_off2 a ha (c / 2) (by omega) st.2.1).2⟩)
        by_cases z : 0 < mn N (a ||| 2 ^ (c / 2))
        · exact z
        · have := hd.2 z
          have e2 := hk.2.2
          have e3 : (rd N (135 + 13) (17 * (a ||| 2 ^ (c / 2)) + c)).toInt = 1000000 := this
          rw [e2] at e3
          omega
      · rw [← e, ← ev, q, ← epc, hk.2.2]; exact Int32.add_comm _ _
  · rintro ⟨hc2, eo, hmn, es⟩
    have ho : op M a c = true := by rw [cu_op h.1 hB h.2.2.2.2.1 ha hr hc2]; exact eo
    have st := st0 ho
    have hn := h.1.2.2.1 _ st.2.2.2.2.1 st.2.2.2.2.2
    have hz8 := (z_full (nb k M) (by omega) (a ||| 2 ^ (c / 2)) st.2.2.2.1).1
    have hd := (hA (a ||| 2 ^ (c / 2)) (by omega) hn.1 hn.2 c (Or.inr ⟨st.1, (n_off2 a ha (c / 2) (by omega) st.2.1).2⟩)).1 hmn
    have hd1 : (rd N (135 + 13) (17 * (a ||| 2 ^ (c / 2)) + c)).toInt ≤ 297 * (cntz (a ||| 2 ^ (c / 2)) (nb k M) : Int) := hd.1.2
    have hk := (h.kb ha hr c st.1 ho).1.resolve_left (fun z => by have := z.2; omega)
    rcases q with ⟨q, _⟩ | ⟨_, q, _⟩ | ⟨_, _, p, ep, q⟩
    · rw [ho] at q; cases q
    · rw [q, nm1] at hk; omega
    · have epc := h.prc ha hr hl c st.1 ho p ep
      rw [e, ← es, q, ← epc, hk.2.2]; exact Int32.add_comm _ _
theorem small_bst (h : CTX g k m M N0 N) (hA : Ald (nb k M) m N 0) (ha : a < 256) (hr : rc M a) (hl : LST k M N a l lc lg) (hrr : 0 ≤ r.toInt) (e : r = rd N (135 + 13) (17 * a + l)) : Pc (mX3_smallestStep 110 k (Int32.ofNat a) lc lg r M) (fun s => (s = -1 ∧ ∀ c, ¬ bco (nb k M) N a l c) ∨ ∃ c, s = Int32.ofNat c ∧ bst (nb k M) N a l c) := by
  have n8 := nb8 h.2.1
  have hne : ¬ r = -1 := fun z => by rw [z, show ((-1 : Int32)).toInt = -1 from rfl] at hrr; omega
  refine (pc_small (k := k) (T := M) (l := lc) (g := lg) ha hne).mono (fun s hs => ?_)
  rcases hs with ⟨e1, h1⟩ | ⟨c, hc, e1, ho, ht, hno⟩
  · refine Or.inl ⟨e1, fun c hb => ?_⟩
    obtain ⟨v, ev, hv⟩ := h1 c (by have := hb.1; omega)
    exact hv ((thr_bco h hA ha hr hl hrr e (by have := hb.1; omega) ev).mpr hb)
  · refine Or.inr ⟨c, e1, (thr_bco h hA ha hr hl hrr e hc ht).mp rfl, fun c' hc' hb => ?_⟩
    obtain ⟨v, ev, hv⟩ := hno c' hc'
    exact hv ((thr_bco h hA ha hr hl hrr e (by omega) ev).mpr hb)
/-- from a state from which there is an order: the class's plan is the reference's -/
theorem ch_plan (h : CTX g k m M N0 N) (hA : Ald (nb k M) m N 0) : ∀ (j p a l : Nat) (lc lg r : Int32), a < 256 → rc M a → LST k M N a l lc lg → 0 ≤ r.toInt → r = rd N (135 + 13) (17 * a + l) → 0 < mn N a → cntz a (nb k M) ≤ j → Ch k M M j p a lc lg r → rd M 110 3 = Int32.ofNat (p + cntz a (nb k M)) ∧ ∀ i, i < cntz a (nb k M) → ∃ c, rd M (110 + 1) (p + i) = Int32.ofNat c ∧ RCh (nb k M) N i a l c := by
  have n8 := nb8 h.2.1
  have nm1 : ((-1 : Int32)).toInt = -1 := rfl
  intro j
  induction j with
  | zero =>
    intro p a l lc lg r ha hr hl hrr e hm hj hC
    have ez : cntz a (nb k M) = 0 := by omega
    rw [ez]
    exact ⟨hC, fun i hi => by omega⟩
  | succ j IH =>
    intro p a l lc lg r ha hr hl hrr e hm hj hC
    have hn := h.1.2.2.1 a ha hr
    have hd := (hA a (by omega) hn.1 hn.2 l hl.vl).1 hm
    rcases hC with ⟨e1, _⟩ | ⟨_, hC⟩
    · rw [e1, nm1] at hrr; omega
    by_cases ef : a = 2 ^ nb k M - 1
    · have ez : cntz a (nb k M) = 0 := by rw [ef]; exact (z_full2 (nb k M) (by omega)).1
      rcases hC with ⟨_, e2⟩ | ⟨c, hc, _, _, ho, _⟩
      · rw [ez]
        exact ⟨e2, fun i hi => by omega⟩
      · exact absurd ef (h.1.full n8 ha hr hc ho)
    · obtain ⟨c0, hc0, q1, q2, v, q3, q4⟩ := hd.2 ef
      have hb0 : bco (nb k M) N a l c0 := by
        refine ⟨hc0, ?_, q2, ?_⟩
        · unfold cnb
          rw [decide_eq_false q1]; rfl
        · have ec : cst N a l c0 = v := by unfold cst; rw [q3]; rfl
          have hs := cst_bd (a := a) (l := l) (c := c0) h.2.2.2.1 ha (by rcases hl with ⟨e, _⟩ | ⟨e, _⟩ <;> omega) (by omega)
          have hO := (h.2.2.2.2.1 a (by omega) hn.1 hn.2).1 c0 hc0
          have ho0 : cnb N a c0 = true := by
            unfold cnb
            rw [decide_eq_false q1]; rfl
          have hz := z_set (nb k M) (by omega) a hn.1 (c0 / 2) (by omega) (hO.2 ho0)
          have hd0 := (hA (a ||| 2 ^ (c0 / 2)) (by omega) hz.2.2.1 (z_sup hn.2) c0 (Or.inr ⟨hc0, hz.2.2.2⟩)).1 q2
          have hd1 : 0 ≤ (rd N (135 + 13) (17 * (a ||| 2 ^ (c0 / 2)) + c0)).toInt ∧ (rd N (135 + 13) (17 * (a ||| 2 ^ (c0 / 2)) + c0)).toInt ≤ 297 * (cntz (a ||| 2 ^ (c0 / 2)) (nb k M) : Int) := hd0.1
          have hz8 := (z_full (nb k M) (by omega) (a ||| 2 ^ (c0 / 2)) hz.2.2.1).1
          rw [i_eq, ec, i_add (by omega) (by omega)]
          exact q4
      have sb := small_bst h hA ha hr hl hrr e
      rcases hC with ⟨e2, _⟩ | ⟨c, hc, e2, e3, ho, hC⟩
      · rcases sb _ e2 with ⟨_, hno⟩ | ⟨c, es, hb⟩
        · exact absurd hb0 (hno c0)
        · exfalso
          have := congrArg Int32.toInt es
          rw [nm1, t_of (by have := hb.1.1; omega)] at this; omega
      · have hb : bst (nb k M) N a l c := by
          rcases sb _ e2 with ⟨es, _⟩ | ⟨c', es, hb⟩
          · exfalso
            have := congrArg Int32.toInt es
            rw [nm1, t_of (by omega)] at this; omega
          · have ec : c = c' := o_inj (by omega) (by have := hb.1.1; omega) es
            rw [ec]; exact hb
        have st := h.1.step n8 ha hr hc ho
        have hz := z_set (nb k M) (by omega) a hn.1 (c / 2) (by omega) st.2.1
        have hl' := h.lst ha hr hc ho
        have hk := (h.kb ha hr c st.1 ho).1
        have hn2 := h.1.2.2.1 _ st.2.2.2.2.1 st.2.2.2.2.2
        have hd2 := (hA (a ||| 2 ^ (c / 2)) (by omega) hn2.1 hn2.2 c hl'.vl).1 hb.1.2.2.1
        have hd3 : (rd N (135 + 13) (17 * (a ||| 2 ^ (c / 2)) + c)).toInt ≤ 297 * (cntz (a ||| 2 ^ (c / 2)) (nb k M) : Int) := hd2.1.2
        have hz8 := (z_full (nb k M) (by omega) (a ||| 2 ^ (c / 2)) st.2.2.2.1).1
        have hk2 := hk.resolve_left (fun z => by have := z.2; omega)
        have ih := IH (p + 1) (a ||| 2 ^ (c / 2)) c (Int32.ofNat c) _ _ st.2.2.2.2.1 st.2.2.2.2.2 hl' hk2.1 hk2.2.2.symm hb.1.2.2.1 (by omega) hC
        refine ⟨?_, fun i hi => ?_⟩
        · rw [ih.1, show p + 1 + cntz (a ||| 2 ^ (c / 2)) (nb k M) = p + cntz a (nb k M) by omega]
        · cases i with
          | zero => exact ⟨c, e3, hb⟩
          | succ i =>
            obtain ⟨c', q1, q2⟩ := ih.2 i (by omega)
            rw [show p + 1 + i = p + (i + 1) by omega] at q1
            exact ⟨c', q1, c, hb, q2⟩
end P2
