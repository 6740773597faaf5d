/-! the class's tables against the reference's -/
def lrl (x y : Int32) (B : Nat) : Prop := (x = -1 ∧ y.toInt = 1000000) ∨ (0 ≤ x.toInt ∧ x.toInt ≤ 297 * (B : Int) ∧ y = x)
def hrl (x y : Int32) (B : Nat) : Prop := (x = -1 ∧ -1000000 ≤ y.toInt ∧ y.toInt ≤ -1000000 + 297 * (B : Int)) ∨ (0 ≤ x.toInt ∧ x.toInt ≤ 297 * (B : Int) ∧ y = x)
/-- the prices of the steps behind a last one -/
def PRC (k : Nat) (M N : Mem) (a l : Nat) (lc lg : Int32) : Prop := ∀ c, c < 2 * nb k M → op M a c = true → ∀ p, mX1_priceBetween k lc lg (Int32.ofNat c) (rd M (110 + 20) (16 * a + c)) M = some p → p = cst N a l c
section CU
variable {g : Gm} {k m a b c l : Nat} {M N N0 : Mem} {lc lg : Int32}
theorem cu_op (hL : LI k m M 256) (hB : PB k M (row 136 N0)) (hO : LOa (nb k M) m N0 N 0) (ha : a < 256) (hr : rc M a) (hc : c < 2 * nb k M) : op M a c = cnb N a c := by
  have hn := hL.2.2.1 a ha hr
  have hT := hL.1 a hn.1 (hL.2.2.2.1 a ha ha hr).1
  obtain ⟨⟨N1, q1, e1, e2, e3⟩, _⟩ := (hO a (by omega) hn.1 hn.2).1 c hc
  have hB1 : PB k M (row 136 N1) := by rw [e1]; exact hB
  cases ho : op M a c with
  | true =>
    exact (e3.mpr (((hT.1 c hc).1 ho).1 N1 hB1 q1 e2)).symm
  | false =>
    obtain ⟨v, hv, hV⟩ := (hT.1 c hc).2 ho
    cases hq : cnb N a c with
    | false => rfl
    | true => exact absurd ((hV N1 hB1 q1 e2).symm.trans (e3.mp hq)) hv
theorem op_hi (hL : LI k m M 256) (ha : a < 256) (hr : rc M a) (hc : 2 * nb k M ≤ c) : op M a c = false := by
  have hn := hL.2.2.1 a ha hr
  exact (hL.1 a hn.1 (hL.2.2.2.1 a ha ha hr).1).2 c hc
theorem csum_tr {x0 : Int64} {o : Nat → Bool} {t : Nat → Int64} {n : Nat} : ∀ d, (∀ c, n ≤ c → c < n + d → o c = false) → csum x0 o t (n + d) = csum x0 o t n := by
  intro d
  induction d with
  | zero => intro _; rfl
  | succ d IH =>
    intro h
    show (if o (n + d) = true then csum x0 o t (n + d) + t (n + d) else csum x0 o t (n + d)) = _
    rw [h (n + d) (by omega) (by omega), if_neg (by decide)]
    exact IH (fun c h1 h2 => h c h1 (by omega))
theorem cu_cnt (hL : LI k m M 256) (n8 : nb k M ≤ 8) (hB : PB k M (row 136 N0)) (hO : LOa (nb k M) m N0 N 0) (hC : CN k M) : ∀ z a, 2 ^ nb k M - a ≤ z → a < 256 → rc M a → rl M (110 + 19) a = rl N (135 + 12) a := by
  intro z
  induction z with
  | zero =>
    intro a hz ha hr
    have := (hL.2.2.1 a ha hr).1
    omega
  | succ z IH =>
    intro a hz ha hr
    have hn := hL.2.2.1 a ha hr
    rw [hC a ha hr, (hO a (by omega) hn.1 hn.2).2]
    have e16 : 16 = 2 * nb k M + (16 - 2 * nb k M) := by omega
    rw [e16, csum_tr _ (fun c h1 h2 => op_hi hL ha hr h1)]
    refine csum_eq _ (fun c hc => cu_op hL hB hO ha hr hc) (fun c hc ho => ?_)
    have ho' : op M a c = true := by rw [cu_op hL hB hO ha hr hc]; exact ho
    have st := hL.step n8 ha hr (by omega) ho'
    exact IH _ (by omega) st.2.2.2.2.1 st.2.2.2.2.2
theorem cu_gauge (hL : LI k m M 256) (hB : PB k M (row 136 N0)) (hG : GOa (nb k M) N0 N) (ha : a < 256) (hr : rc M a) (hc : c < 2 * nb k M) (ho : op M a c = true) : rd M (110 + 20) (16 * a + c) = rd N (135 + 11) (16 * a + c) := by
  have hn := hL.2.2.1 a ha hr
  have hT := hL.1 a hn.1 (hL.2.2.2.1 a ha ha hr).1
  obtain ⟨N1, q1, e1, e2, e3⟩ := hG a c hn.1 hc
  have hB1 : PB k M (row 136 N1) := by rw [e1]; exact hB
  rw [e3]
  exact (((hT.1 c hc).1 ho).2.1 N1 hB1 q1 e2).symm
theorem cu_price0 : PRC k M N a 16 (-1) lg := by
  intro c _ _ p hp
  have e : mX1_priceBetween k (-1) lg (Int32.ofNat c) (rd M (110 + 20) (16 * a + c)) M = some 0 := rfl
  rw [e] at hp
  cases hp
  rfl
theorem cu_price (hP : PR k M (row 136 N)) (n8 : nb k M ≤ 8) (hK : OKm g N) (hl : l < 2 * nb k M) (ha : a < 256) (tb : a.testBit (l / 2) = true) (hlg : lg = rd N (135 + 11) (16 * (a - 2 ^ (l / 2)) + l)) (hg : ∀ c, c < 2 * nb k M → op M a c = true → rd M (110 + 20) (16 * a + c) = rd N (135 + 11) (16 * a + c)) : PRC k M N a l (Int32.ofNat l) lg := by
  intro c hc ho p hp
  have hn : (rd N 136 0).toInt = (nb k M : Int) := hP.pb.bn
  obtain ⟨v, ev, _⟩ := cst_ok (a := a) (l := l) (c := c) hK ha (by omega) (by omega)
  have ec : cst N a l c = v := by unfold cst; rw [ev]; rfl
  rw [ec]
  have ev0 := ev
  unfold cstO at ev
  have hl16 : ¬ Int32.ofNat l = (16 : Int32) := fun z => by
    have := o_inj (a := l) (b := 16) (by omega) (by omega) z
    omega
  have e2 := ite_f hl16 ev
  obtain ⟨r22, e22, e3⟩ := cap_s e2
  rw [f_mod l (by omega), f_half l (by omega), f_mod c (by omega), f_half c (by omega), ix16c ha (by omega)] at e3
  have no := n_off a ha (l / 2) (by omega) tb
  have hs : a - 2 ^ (l / 2) < 256 := Nat.lt_of_le_of_lt (Nat.sub_le _ _) ha
  have e4 : r22 = lg := by
    unfold mX7_gaugeLast at e22
    rw [f_half l (by omega), f_ox a ha (l / 2) (by omega), if_pos tb] at e22
    have q := (chk_s e22).2
    rw [ix16c hs (by omega)] at q
    rw [hlg]; exact (Option.some.inj q).symm
  rw [e4] at e3
  have h := price_R (k := k) (M := M) (N := N) (b1 := l / 2) (s1 := l % 2) (b2 := c / 2) (s2 := c % 2) (g1 := lg) (g2 := rd N (135 + 11) (16 * a + c)) hP hn (by omega) (by omega) (by omega) (by omega)
  rw [show 2 * (l / 2) + l % 2 = l by omega, show 2 * (c / 2) + c % 2 = c by omega] at h
  rw [hg c hc ho] at hp
  exact h p v hp e3
/-- a step's cost, by the class -/
theorem pc_thr {x6 : Int32} (ha : a < 256) (hc : c < 16) (hs : op M a c = true → (a ||| 2 ^ (c / 2)) < 256) : Pc (mX3_costThrough 110 k (Int32.ofNat a) lc lg (Int32.ofNat c) x6 M) (fun t => (op M a c = false ∧ t = -1) ∨ (op M a c = true ∧ (if x6 = 0 then rd M (110 + 22) (16 * (a ||| 2 ^ (c / 2)) + c) else rd M (110 + 21) (16 * (a ||| 2 ^ (c / 2)) + c)) = -1 ∧ t = -1) ∨ (op M a c = true ∧ ¬ (if x6 = 0 then rd M (110 + 22) (16 * (a ||| 2 ^ (c / 2)) + c) else rd M (110 + 21) (16 * (a ||| 2 ^ (c / 2)) + c)) = -1 ∧ ∃ p, mX1_priceBetween k lc lg (Int32.ofNat c) (rd M (110 + 20) (16 * a + c)) M = some p ∧ t = (if x6 = 0 then rd M (110 + 22) (16 * (a ||| 2 ^ (c / 2)) + c) else rd M (110 + 21) (16 * (a ||| 2 ^ (c / 2)) + c)) + p)) := by
  unfold mX3_costThrough
  rw [pc_isOpen ha hc, pc_setBehind ha hc]
  refine Pc.c (Pc.ok (P := fun r => r = if op M a c = true then 1 else 0) rfl) (fun r2 e2 => Pc.i (fun c2 => ?_) (fun c2 => ?_))
  · refine Pc.ok (Or.inl ⟨?_, rfl⟩)
    cases ho : op M a c with
    | false => rfl
    | true => rw [ho, if_pos rfl] at e2; rw [e2] at c2; exact absurd c2 (by decide)
  · have ho : op M a c = true := by
      cases ho : op M a c with
      | true => rfl
      | false => rw [ho, if_neg (by decide)] at e2; exact absurd e2 c2
    have hs := hs ho
    refine Pc.c (Pc.ok (P := fun r => r = Int32.ofNat (a ||| 2 ^ (c / 2))) rfl) (fun r6 e6 => Pc.b (fun x7 e7 => ?_))
    have e7' : x7.toNatClampNeg = 16 * (a ||| 2 ^ (c / 2)) + c := by rw [e7, e6]; exact f_15c hs hc
    rw [e7']
    have b48 : ∀ y : Int32, Pc (mX3_costThrough_b48 110 k M (Int32.ofNat a) lc lg (Int32.ofNat c) y) (fun t => (y = -1 ∧ t = -1) ∨ (¬ y = -1 ∧ ∃ p, mX1_priceBetween k lc lg (Int32.ofNat c) (rd M (110 + 20) (16 * a + c)) M = some p ∧ t = y + p)) := by
      intro y
      unfold mX3_costThrough_b48
      rw [f_15c ha hc]
      exact Pc.i (fun z => Pc.ok (Or.inl ⟨z, rfl⟩)) (fun z => Pc.k (fun _ => Pc.c (Pc.self _) (fun p ep => Pc.ok (Or.inr ⟨z, p, ep, rfl⟩))))
    refine Pc.i (fun z => Pc.k (fun _ => (b48 _).mono (fun t ht => ?_))) (fun z => Pc.k (fun _ => (b48 _).mono (fun t ht => ?_)))
    · rw [if_pos z]
      rcases ht with ⟨q1, q2⟩ | ⟨q1, q2⟩
      · exact Or.inr (Or.inl ⟨ho, q1, q2⟩)
      · exact Or.inr (Or.inr ⟨ho, q1, q2⟩)
    · rw [if_neg z]
      rcases ht with ⟨q1, q2⟩ | ⟨q1, q2⟩
      · exact Or.inr (Or.inl ⟨ho, q1, q2⟩)
      · exact Or.inr (Or.inr ⟨ho, q1, q2⟩)
/-- what is needed of a set to compare its costs -/
def CUa (k m : Nat) (M N : Mem) (a l : Nat) (lc lg : Int32) : Prop := PRC k M N a l lc lg ∧ (∀ c, c < 2 * nb k M → op M a c = true → 0 ≤ (cst N a l c).toInt ∧ (cst N a l c).toInt ≤ 297) ∧ (∀ c, c < 2 * nb k M → op M a c = cnb N a c) ∧ (∀ c, 2 * nb k M ≤ c → op M a c = false) ∧ (∀ c, c < 2 * nb k M → op M a c = true → (a ||| 2 ^ (c / 2)) < 256 ∧ lrl (rd M (110 + 21) (16 * (a ||| 2 ^ (c / 2)) + c)) (rd N (135 + 13) (17 * (a ||| 2 ^ (c / 2)) + c)) (cntz a (nb k M) - 1) ∧ hrl (rd M (110 + 22) (16 * (a ||| 2 ^ (c / 2)) + c)) (rd N (135 + 14) (17 * (a ||| 2 ^ (c / 2)) + c)) (cntz a (nb k M) - 1) ∧ 1 ≤ cntz a (nb k M))
theorem low_l (h : CUa k m M N a l lc lg) (n8 : nb k M ≤ 8) (ha : a < 256) (hz : cntz a (nb k M) ≤ 8) : ∀ (fuel c : Nat) (x6 : Int32), c ≤ 16 → lrl x6 (lowF (nb k M) N a l (min c (2 * nb k M))) (cntz a (nb k M)) → Pc (mX3_costOnward_l16 110 k M fuel (Int32.ofNat a) lc lg 1 x6 (Int32.ofNat c)) (fun r => lrl r (lowF (nb k M) N a l (2 * nb k M)) (cntz a (nb k M))) := by
  obtain ⟨hP, hv, ho1, ho2, hK⟩ := h
  intro fuel
  induction fuel with
  | zero => intro c x6 _ _ q e; cases e
  | succ fuel IH =>
    intro c x6 hc hx
    show Pc (mX3_costOnward_b16 110 k M (mX3_costOnward_l16 110 k M fuel) (Int32.ofNat a) lc lg 1 x6 (Int32.ofNat c)) _
    unfold mX3_costOnward_b16 mX3_costOnward_b66 mX3_costOnward_b70 mX3_costOnward_b71
    have tc : (Int32.ofNat c).toInt = (c : Int) := t_of (by omega)
    have n16 : ((16 : Int32)).toInt = 16 := rfl
    have nm1 : ((-1 : Int32)).toInt = -1 := rfl
    refine Pc.i (fun c1 => Pc.ok ?_) (fun c1 => ?_)
    · have c1 := i_le.mp c1
      have e : c = 16 := by omega
      subst e
      rw [Nat.min_eq_right (by omega)] at hx
      exact hx
    have c1 := i_nle c1
    have next : ∀ y : Int32, lrl y (lowF (nb k M) N a l (min (c + 1) (2 * nb k M))) (cntz a (nb k M)) → Pc (mX3_costOnward_b88 110 k M (mX3_costOnward_l16 110 k M fuel) (Int32.ofNat a) lc lg 1 y (Int32.ofNat c)) (fun r => lrl r (lowF (nb k M) N a l (2 * nb k M)) (cntz a (nb k M))) := by
      intro y hy
      unfold mX3_costOnward_b88
      refine Pc.b (fun x ex => ?_)
      have e : x = Int32.ofNat (c + 1) := by rw [ex]; exact (Int32.ofNat_add c 1).symm
      rw [e]
      exact IH (c + 1) y (by omega) hy
    have skip : op M a c = false → lowF (nb k M) N a l (min (c + 1) (2 * nb k M)) = lowF (nb k M) N a l (min c (2 * nb k M)) := by
      intro ho
      by_cases q : c < 2 * nb k M
      · rw [Nat.min_eq_left (by omega), Nat.min_eq_left (by omega)]
        show (if cnb N a c = true then _ else _) = _
        rw [← ho1 c q, ho, if_neg (by decide)]; rfl
      · rw [Nat.min_eq_right (by omega), Nat.min_eq_right (by omega)]
    have c2n : op M a c = true → c < 2 * nb k M := fun ho => by
      by_cases q : c < 2 * nb k M
      · exact q
      · rw [ho2 c (by omega)] at ho; cases ho
    have one : ∀ {z : Int32}, (1 : Int32) = 0 → z = z + 1 := fun z => absurd z (by decide)
    refine Pc.c (pc_thr (k := k) (lc := lc) (lg := lg) (x6 := 1) ha (by omega) (fun ho => (hK c (c2n ho) ho).1)) (fun r7 p7 => ?_)
    rw [if_neg (by decide)] at p7
    -- a step that leads to no order
    have dead : r7 = -1 → lrl x6 (lowF (nb k M) N a l (min (c + 1) (2 * nb k M))) (cntz a (nb k M)) → Pc (ite2 (x6 = (-1 : Int32)) (ite2 (r7 = (-1 : Int32)) (mX3_costOnward_b88 110 k M (mX3_costOnward_l16 110 k M fuel) (Int32.ofNat a) lc lg 1 x6 (Int32.ofNat c)) (ite2 ((1 : Int32) = 0) (mX3_costOnward_b88 110 k M (mX3_costOnward_l16 110 k M fuel) (Int32.ofNat a) lc lg 1 x6 (Int32.ofNat c)) (mX3_costOnward_b88 110 k M (mX3_costOnward_l16 110 k M fuel) (Int32.ofNat a) lc lg 1 r7 (Int32.ofNat c)))) (ite2 ((1 : Int32) = 0) (ite2 (r7 ≤ x6) (ite2 (r7 = (-1 : Int32)) (mX3_costOnward_b88 110 k M (mX3_costOnward_l16 110 k M fuel) (Int32.ofNat a) lc lg 1 x6 (Int32.ofNat c)) (ite2 ((0 : Int32) = 0) (mX3_costOnward_b88 110 k M (mX3_costOnward_l16 110 k M fuel) (Int32.ofNat a) lc lg 1 x6 (Int32.ofNat c)) (mX3_costOnward_b88 110 k M (mX3_costOnward_l16 110 k M fuel) (Int32.ofNat a) lc lg 1 r7 (Int32.ofNat c)))) (ite2 (r7 = (-1 : Int32)) (mX3_costOnward_b88 110 k M (mX3_costOnward_l16 110 k M fuel) (Int32.ofNat a) lc lg 1 x6 (Int32.ofNat c)) (ite2 ((1 : Int32) = 0) (mX3_costOnward_b88 110 k M (mX3_costOnward_l16 110 k M fuel) (Int32.ofNat a) lc lg 1 x6 (Int32.ofNat c)) (mX3_costOnward_b88 110 k M (mX3_costOnward_l16 110 k M fuel) (Int32.ofNat a) lc lg 1 r7 (Int32.ofNat c))))) (ite2 (x6 ≤ r7) (ite2 (r7 = (-1 : Int32)) (mX3_costOnward_b88 110 k M (mX3_costOnward_l16 110 k M fuel) (Int32.ofNat a) lc lg 1 x6 (Int32.ofNat c)) (ite2 ((0 : Int32) = 0) (mX3_costOnward_b88 110 k M (mX3_costOnward_l16 110 k M fuel) (Int32.ofNat a) lc lg 1 x6 (Int32.ofNat c)) (mX3_costOnward_b88 110 k M (mX3_costOnward_l16 110 k M fuel) (Int32.ofNat a) lc lg 1 r7 (Int32.ofNat c)))) (ite2 (r7 = (-1 : Int32)) (mX3_costOnward_b88 110 k M (mX3_costOnward_l16 110 k M fuel) (Int32.ofNat a) lc lg 1 x6 (Int32.ofNat c)) (ite2 ((1 : Int32) = 0) (mX3_costOnward_b88 110 k M (mX3_costOnward_l16 110 k M fuel) (Int32.ofNat a) lc lg 1 x6 (Int32.ofNat c)) (mX3_costOnward_b88 110 k M (mX3_costOnward_l16 110 k M fuel) (Int32.ofNat a) lc lg 1 r7 (Int32.ofNat c))))))) (fun r => lrl r (lowF (nb k M) N a l (2 * nb k M)) (cntz a (nb k M))) := by
      intro e7 el
      have nx := next x6 el
      have dd : ∀ {y : Option Int32}, Pc (ite2 (r7 = (-1 : Int32)) (mX3_costOnward_b88 110 k M (mX3_costOnward_l16 110 k M fuel) (Int32.ofNat a) lc lg 1 x6 (Int32.ofNat c)) y) (fun r => lrl r (lowF (nb k M) N a l (2 * nb k M)) (cntz a (nb k M))) := fun {y} => Pc.i (fun _ => nx) (fun z => absurd e7 z)
      exact Pc.i (fun _ => dd) (fun _ => Pc.i (fun _ => Pc.i (fun _ => dd) (fun _ => dd)) (fun _ => Pc.i (fun _ => dd) (fun _ => dd)))
    rcases p7 with ⟨ho, e7⟩ | ⟨ho, hb, e7⟩ | ⟨ho, hb, p, ep, e7⟩
    · exact dead e7 (by rw [skip ho]; exact hx)
    · refine dead e7 ?_
      have q := c2n ho
      have hk := hK c q ho
      have hvv := hv c q ho
      have el : lowF (nb k M) N a l (min (c + 1) (2 * nb k M)) = imin (lowF (nb k M) N a l (min c (2 * nb k M))) (cst N a l c + rd N (135 + 13) (17 * (a ||| 2 ^ (c / 2)) + c)) := by
        rw [Nat.min_eq_left (by omega), Nat.min_eq_left (by omega)]
        show (if cnb N a c = true then imin (lowF (nb k M) N a l c) (cst N a l c + rd N (135 + 13) (17 * (a ||| 2 ^ (c / 2)) + c)) else _) = _
        rw [← ho1 c q, ho, if_pos rfl]
      rw [el]
      generalize lowF (nb k M) N a l (min c (2 * nb k M)) = y at hx
      have hy : (rd N (135 + 13) (17 * (a ||| 2 ^ (c / 2)) + c)).toInt = 1000000 := by
        rcases hk.2.1 with ⟨_, q2⟩ | ⟨q1, _⟩
        · exact q2
        · rw [hb, nm1] at q1; omega
      have hs := i_add (a := cst N a l c) (b := rd N (135 + 13) (17 * (a ||| 2 ^ (c / 2)) + c)) (by omega) (by omega)
      have hle : y.toInt ≤ 1000000 := by
        rcases hx with ⟨_, q2⟩ | ⟨q1, q2, q3⟩
        · omega
        · rw [q3]; omega
      unfold imin
      rw [if_neg (fun z => by have z := i_lt.mp z; omega)]
      exact hx
    · have q := c2n ho
      have hk := hK c q ho
      have hvv := hv c q ho
      have epc := hP c q ho p ep
      rw [← epc] at hvv
      have hb2 : 0 ≤ (rd M (110 + 21) (16 * (a ||| 2 ^ (c / 2)) + c)).toInt ∧ (rd M (110 + 21) (16 * (a ||| 2 ^ (c / 2)) + c)).toInt ≤ 297 * ((cntz a (nb k M) - 1 : Nat) : Int) ∧ rd N (135 + 13) (17 * (a ||| 2 ^ (c / 2)) + c) = rd M (110 + 21) (16 * (a ||| 2 ^ (c / 2)) + c) := by
        rcases hk.2.1 with ⟨q1, _⟩ | h
        · exact absurd q1 hb
        · exact h
      have et := i_add (a := rd M (110 + 21) (16 * (a ||| 2 ^ (c / 2)) + c)) (b := p) (by omega) (by omega)
      rw [← e7] at et
      have r7n : ¬ r7 = -1 := fun z => by rw [z, nm1] at et; omega
      have ey : cst N a l c + rd N (135 + 13) (17 * (a ||| 2 ^ (c / 2)) + c) = r7 := by
        rw [← epc, hb2.2.2, e7]; exact Int32.add_comm _ _
      have el : lowF (nb k M) N a l (min (c + 1) (2 * nb k M)) = imin (lowF (nb k M) N a l (min c (2 * nb k M))) r7 := by
        rw [Nat.min_eq_left (by omega), Nat.min_eq_left (by omega)]
        show (if cnb N a c = true then imin (lowF (nb k M) N a l c) (cst N a l c + rd N (135 + 13) (17 * (a ||| 2 ^ (c / 2)) + c)) else _) = _
        rw [← ho1 c q, ho, if_pos rfl, ey]
      have good : lrl r7 r7 (cntz a (nb k M)) := Or.inr ⟨by omega, by omega, rfl⟩
      generalize lowF (nb k M) N a l (min c (2 * nb k M)) = y at hx el
      refine Pc.i (fun z => ?_) (fun z => Pc.i (fun w => absurd w (by decide)) (fun _ => Pc.i (fun w => ?_) (fun w => ?_)))
      · have hy : y.toInt = 1000000 := by
          rcases hx with ⟨_, q2⟩ | ⟨q1, _⟩
          · exact q2
          · rw [z, nm1] at q1; omega
        refine Pc.i (fun w => absurd w r7n) (fun _ => Pc.i (fun w => absurd w (by decide)) (fun _ => next r7 ?_))
        rw [el]
        unfold imin
        rw [if_pos (i_lt.mpr (by omega))]
        exact good
      · have hy := hx.resolve_left (fun w => z w.1)
        have w := i_le.mp w
        refine Pc.i (fun w => absurd w r7n) (fun _ => Pc.i (fun _ => next x6 ?_) (fun w => absurd rfl w))
        rw [el, hy.2.2]
        unfold imin
        rw [if_neg (fun v => by have v := i_lt.mp v; omega)]
        exact Or.inr ⟨hy.1, hy.2.1, rfl⟩
      · have hy := hx.resolve_left (fun w => z w.1)
        have w := i_nle w
        refine Pc.i (fun w => absurd w r7n) (fun _ => Pc.i (fun w => absurd w (by decide)) (fun _ => next r7 ?_))
        rw [el, hy.2.2]
        unfold imin
        rw [if_pos (i_lt.mpr (by omega))]
        exact good
end CU
