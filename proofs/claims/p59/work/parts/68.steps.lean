/-! the law asks step by step -/
section LWx
theorem f_bit10 : ∀ m c : Nat, m < 1024 → c < 10 → ((Int32.ofNat m >>> (Int32.ofNat c &&& 31)) &&& (1 : Int32)) = if m.testBit c = true then 1 else 0 := by
  have key : ∀ m, m < 1024 → ∀ c, c < 10 → ((Int32.ofNat m >>> (Int32.ofNat c &&& 31)) &&& (1 : Int32)) = if m.testBit c = true then 1 else 0 := by decide +kernel
  exact fun m c hm hc => key m hm c hc
variable {M : Mem} {nb l0 c1 c2 c3 c4 : Nat} {its : List (Bool × Nat)} {b s : Nat} {b0 : Nat}
abbrev LL (l0 : Nat) (its : List (Bool × Nat)) : List Nat := l0 :: its.map (fun q => q.2)
/-- all that holds while the law asks -/
def ZZ (nb l0 : Nat) (its : List (Bool × Nat)) (c1 c2 c3 c4 : Nat) (M : Mem) : Prop := CSt nb l0 its c1 c2 c3 c4 M ∧ LSt nb l0 its c3 c4 M ∧ OKb (fT (sZ sP)) M
theorem LL_len : (LL l0 its).length = its.length + 1 := by show (its.map _).length + 1 = _; rw [List.length_map]
theorem LL_ln (h : Its l0 its) (hn : its.length ≤ 5) : Ln (LL l0 its) := by
  refine ⟨by rw [LL_len]; omega, fun v hv => ?_⟩
  rcases List.mem_cons.mp hv with e | e
  · rw [e]; exact h.1
  · obtain ⟨q, hq, rfl⟩ := List.mem_map.mp e
    exact h.2 q hq
theorem ZZ.ln (h : ZZ nb l0 its c1 c2 c3 c4 M) : Ln (LL l0 its) ∧ (LL l0 its).length = nb + 1 ∧ nb ≤ 5 ∧ 1 ≤ nb := by
  obtain ⟨⟨-, -, hn, h1, h5, hI, -⟩, -⟩ := h
  exact ⟨LL_ln hI (by omega), by rw [LL_len, hn], h5, h1⟩
theorem ZZ.nm (h : ZZ nb l0 its c1 c2 c3 c4 M) : NM0 (LL l0 its) (100 * c3) (500 + 100 * c4) M := by
  obtain ⟨⟨⟨p1, p2, p3, p4, p5, p6, p7⟩, -⟩, -⟩ := h
  exact ⟨⟨p1, p2⟩, p6, p7, p5 6 (by decide), p5 7 (by decide), p5 8 (by decide)⟩
theorem ZZ.ks {M' : Mem} (h : ZZ nb l0 its c1 c2 c3 c4 M) (hk : KS (SPs 103) M M') (hO : OKb (fT (sZ sP)) M') : ZZ nb l0 its c1 c2 c3 c4 M' := by
  obtain ⟨⟨p1, p2, p3⟩, ⟨l1, l2, l3, l4, l5⟩, -⟩ := h
  have e : ∀ c j, c ≠ 103 → ¬ (104 ≤ c ∧ c ≤ 109) → rd M' c j = rd M c j := fun c j h1 h2 => hk c j (fun q => by rcases q with q | q <;> omega)
  refine ⟨⟨p1.ks hk (fun c j h1 h2 q => by rcases q with q | q <;> omega), (e 2 0 (by decide) (by decide)).trans p2, p3⟩, ⟨(e 135 2 (by decide) (by decide)).trans l1, (e 135 7 (by decide) (by decide)).trans l2, (e 135 8 (by decide) (by decide)).trans l3, fun j hj => (e 137 j (by decide) (by decide)).trans (l4 j hj), fun j hj => (e 138 j (by decide) (by decide)).trans (l5 j hj)⟩, hO⟩
/-- an answer that is known -/
theorem zx {x : Option (Mem × (Int32 ⊕ Nat))} {v : Int32} {R : Int32 → Prop} {es : List Nat} (h : ZZ nb l0 its c1 c2 c3 c4 M) (hS : Sf x (pX (fT (sZ sP)) R es)) (hP : Pc x (fun q => q.2 = Sum.inl v ∧ KS (SPs 103) M q.1)) : ∃ M', x = some (M', Sum.inl v) ∧ ZZ nb l0 its c1 c2 c3 c4 M' := by
  obtain ⟨⟨M', r⟩, e, hO, -⟩ := hS
  obtain ⟨hr, hk⟩ := hP _ e
  have hr : r = Sum.inl v := hr
  subst hr
  exact ⟨M', e, h.ks hk hO⟩
/-- a sum of lengths -/
theorem e_sum_l (h : ZZ nb l0 its c1 c2 c3 c4 M) {i0 j : Nat} (hj : j ≤ nb) : ∀ (n i : Nat), i0 ≤ i → i ≤ j + 1 → j + 1 - i < n → mL_sum_l5 135 b0 M n (Int32.ofNat j) (Int32.ofNat (ps (LL l0 its) i - ps (LL l0 its) i0)) (Int32.ofNat i) = some (Int32.ofNat (ps (LL l0 its) (j + 1) - ps (LL l0 its) i0)) := by
  obtain ⟨hL, hl, hn, -⟩ := h.ln
  have hlen := h.2.1.2.2.2.1
  have hc := h.1.2.2.1
  intro n
  induction n with
  | zero => intro i _ _ h0; exact absurd h0 (by omega)
  | succ n IH =>
    intro i h0 hi hn2
    show mL_sum_b5 135 b0 M (mL_sum_l5 135 b0 M n) (Int32.ofNat j) (Int32.ofNat (ps (LL l0 its) i - ps (LL l0 its) i0)) (Int32.ofNat i) = _
    unfold mL_sum_b5
    by_cases e : i = j + 1
    · rw [ite_p (i_lt.mpr (by rw [t_of (by omega), t_of (by omega)]; omega)), e]
    · have hs := ps_s (L := LL l0 its) (i := i) (by omega)
      have hm := ps_mono (L := LL l0 its) (i := i0) (j := i) (by omega) (by omega)
      have hv := hL.at (j := i) (by omega)
      have hb := ps_b hL (i + 1) (by omega)
      rw [ite_n (fun q => by have := i_lt.mp q; rw [t_of (by omega), t_of (by omega)] at this; omega), chk_t (o_ok (by omega) (by omega)), bnd_e, bnd_e, c_of (by omega), show rd M (135 + 2) i = Int32.ofNat ((LL l0 its).getD i 0) from hlen i (by omega), show Int32.ofNat (ps (LL l0 its) i - ps (LL l0 its) i0) + Int32.ofNat ((LL l0 its).getD i 0) = Int32.ofNat (ps (LL l0 its) i - ps (LL l0 its) i0 + (LL l0 its).getD i 0) from o_add (by omega), show Int32.ofNat i + (1 : Int32) = Int32.ofNat (i + 1) from o_add (b := 1) (by omega), show ps (LL l0 its) i - ps (LL l0 its) i0 + (LL l0 its).getD i 0 = ps (LL l0 its) (i + 1) - ps (LL l0 its) i0 by omega]
      exact IH (i + 1) (by omega) (by omega) (by omega)
theorem e_sum (h : ZZ nb l0 its c1 c2 c3 c4 M) {i j : Nat} (hi : i ≤ j + 1) (hj : j ≤ nb) : mL_sum 135 b0 (Int32.ofNat i) (Int32.ofNat j) M = some (Int32.ofNat (ps (LL l0 its) (j + 1) - ps (LL l0 its) i)) := by
  have h5 := h.ln.2.2.1
  have r := e_sum_l (b0 := b0) (i0 := i) h hj 5000 i (Nat.le_refl _) hi (by omega)
  rw [Nat.sub_self] at r
  exact r
/-! a first step -/
theorem i_of {x y : Nat} (hx : x < 100000) (hy : y < 100000) : Int32.ofNat x = Int32.ofNat y ↔ x = y := by
  rw [i_eq, t_of hx, t_of hy]; omega
theorem Zup (h : ZZ nb l0 its c1 c2 c3 c4 M) : rd M 135 2 = Int32.ofNat nb ∧ rd M 135 7 = Int32.ofNat (100 * c3) ∧ rd M 135 8 = Int32.ofNat (500 + 100 * c4) := ⟨h.2.1.1, h.2.1.2.1, h.2.1.2.2.1⟩
/-- the loop over the legs -/
theorem e_legs (hb : b < nb) (hs : s < 2) {x7 : Int32} (hx7 : x7 = Int32.ofNat (rsn (LL l0 its) (100 * c3) (500 + 100 * c4) b s)) (b0 : Nat) : ∀ (n j : Nat) (M : Mem), ZZ nb l0 its c1 c2 c3 c4 M → j ≤ nb + 1 → nb + 1 - j < n → ∃ M', mL_isStep_l160 135 b0 0 n (Int32.ofNat b) (Int32.ofNat s) x7 (Int32.ofNat j) M = some (M', Sum.inl 1) ∧ ZZ nb l0 its c1 c2 c3 c4 M' := by
  intro n
  induction n with
  | zero => intro j M _ _ h0; exact absurd h0 (by omega)
  | succ n IH =>
    intro j M h hj hn
    obtain ⟨hL, hl, h5, h1⟩ := h.ln
    obtain ⟨u2, u7, u8⟩ := Zup h
    have g3 := h.1.2.2.2.2.2.2.2.2.1
    have g4 := h.1.2.2.2.2.2.2.2.2.2
    show ∃ M', mL_isStep_b160 135 b0 0 (mL_isStep_l160 135 b0 0 n) (Int32.ofNat b) (Int32.ofNat s) x7 (Int32.ofNat j) M = some (M', Sum.inl 1) ∧ _
    unfold mL_isStep_b160
    rw [u2]
    by_cases e : j = nb + 1
    · -- all legs: what is possible
      rw [ite_p (i_lt.mpr (by rw [t_of (by omega), t_of (by omega)]; omega))]
      obtain ⟨⟨M1, r⟩, e1, ⟨hO, -⟩⟩ := sX6_possible h.2.2
      obtain ⟨hk, m, hr, hm, hbit⟩ := p_possible hL hl h5 (by omega) (by omega) h.nm _ e1
      have hr : r = Int32.ofNat m := hr
      subst hr
      refine ⟨M1, ?_, h.ks hk hO⟩
      have hm' : m < 1024 := Nat.lt_of_lt_of_le hm (by have : 2 ^ (2 * nb) ≤ 2 ^ 10 := Nat.pow_le_pow_right (by decide) (by omega); omega)
      have hbt := hbit (2 * b + s) (by omega)
      rw [show (2 * b + s) / 2 = b by omega, show (2 * b + s) % 2 = s by omega] at hbt
      rw [e1, cal_e, e_code (by omega) hs, f_bit10 m (2 * b + s) hm' (by omega)]
      have hx : x7 = 0 ↔ rsn (LL l0 its) (100 * c3) (500 + 100 * c4) b s = 0 := by
        rw [hx7]
        have hrb : rsn (LL l0 its) (100 * c3) (500 + 100 * c4) b s < 10 := rsn_b
        exact i_of (y := 0) (by omega) (by omega)
      unfold mL_isStep_b306
      by_cases z : x7 = 0
      · rw [ite_p z, if_pos (hbt.mpr (hx.mp z)), ite_p rfl]
      · rw [ite_n z, if_neg (fun q => z (hx.mpr (hbt.mp q))), ite_p rfl]
    · have hjn : j ≤ nb := by omega
      rw [ite_n (fun q => by have := i_lt.mp q; rw [t_of (by omega), t_of (by omega)] at this; omega)]
      have e1 : Int32.ofNat b + (1 : Int32) = Int32.ofNat (b + 1) := o_add (b := 1) (by omega)
      have ej : Int32.ofNat j + (1 : Int32) = Int32.ofNat (j + 1) := o_add (b := 1) (by omega)
      have hfb := fa_b hL (j := j) (b := b) (by omega) (by omega)
      -- the two corners
      obtain ⟨⟨M1, r1⟩, q1, o1, -⟩ := sX6_corner (x1 := Int32.ofNat b) (x2 := Int32.ofNat s) (x3 := Int32.ofNat j) (x4 := Int32.ofNat 0) h.2.2
      obtain ⟨⟨v1, hr1, hv1⟩, k1⟩ := p_corner hL hl h5 hb hs hjn (w := 0) (by decide) h.nm _ q1
      have hr1 : r1 = Sum.inl v1 := hr1
      subst hr1
      have h1' := h.ks k1 o1
      obtain ⟨⟨M2, r2⟩, q2, o2, -⟩ := sX6_corner (x1 := Int32.ofNat b) (x2 := Int32.ofNat s) (x3 := Int32.ofNat j) (x4 := Int32.ofNat 1) h1'.2.2
      obtain ⟨⟨v2, hr2, hv2⟩, k2⟩ := p_corner hL hl h5 hb hs hjn (w := 1) (by decide) h1'.nm _ q2
      have hr2 : r2 = Sum.inl v2 := hr2
      subst hr2
      have h2' := h1'.ks k2 o2
      rw [if_pos rfl] at hv1
      rw [if_neg (by decide)] at hv2
      obtain ⟨M3, q3, h3'⟩ := IH (j + 1) M2 h2' (by omega) (by omega)
      refine ⟨M3, ?_, h3'⟩
      have q1' : mX6_corner 0 (Int32.ofNat b) (Int32.ofNat s) (Int32.ofNat j) (0 : Int32) M = some (M1, Sum.inl v1) := q1
      have q2' : mX6_corner 0 (Int32.ofNat b) (Int32.ofNat s) (Int32.ofNat j) (1 : Int32) M1 = some (M2, Sum.inl v2) := q2
      have t227 : mL_isStep_b227 135 b0 0 (mL_isStep_l160 135 b0 0 n) (Int32.ofNat b) (Int32.ofNat s) x7 (Int32.ofNat j) (Int32.ofNat (fa (LL l0 its) b j)) (if cb b s j then 1 else 0) M = some (M3, Sum.inl 1) := by
        unfold mL_isStep_b227
        rw [q1', calx_i]
        cases hc : cb b s j with
        | true =>
          rw [hc] at hv1 hv2
          have w1 : v1 = -(Int32.ofNat (fa (LL l0 its) b j)) := by rw [i_eq, hv1, neg_of (by omega)]; rfl
          have w2 : v2 = 0 := by rw [i_eq, hv2]; rfl
          rw [ite_n (by decide)]
          unfold mL_isStep_b250
          rw [ite_p w1, q2', calx_i, ite_n (by decide)]
          unfold mL_isStep_b273
          rw [ite_p w2, bnd_e, ej]
          exact q3
        | false =>
          rw [hc] at hv1 hv2
          have w1 : v1 = 0 := by rw [i_eq, hv1]; rfl
          have w2 : v2 = Int32.ofNat (fa (LL l0 its) b j) := by rw [i_eq, hv2, t_of (by omega)]; rfl
          rw [ite_p (by decide)]
          unfold mL_isStep_b250
          rw [ite_p w1, q2', calx_i, ite_p (by decide)]
          unfold mL_isStep_b273
          rw [ite_p w2, bnd_e, ej]
          exact q3
      have t206 : ∀ lo : Bool, (lo = true ↔ j ≤ b) → mL_isStep_b206 135 b0 0 (mL_isStep_l160 135 b0 0 n) (Int32.ofNat b) (Int32.ofNat s) x7 (Int32.ofNat j) (if lo then 1 else 0) (Int32.ofNat (fa (LL l0 its) b j)) M = some (M3, Sum.inl 1) := by
        intro lo hlo
        unfold mL_isStep_b206 mL_isStep_b219
        have hs2 : s = 0 ∨ s = 1 := by omega
        rcases hs2 with rfl | rfl
        · rw [ite_p (show Int32.ofNat 0 = 0 from rfl)]
          cases lo with
          | true =>
            rw [ite_p (by decide)]
            have : cb b 0 j = true := by unfold cb; rw [if_pos rfl, decide_eq_true (hlo.mp rfl)]
            rw [this] at t227; exact t227
          | false =>
            rw [ite_n (by decide)]
            have : cb b 0 j = false := by unfold cb; rw [if_pos rfl, decide_eq_false (fun z => by have := hlo.mpr z; cases this)]
            rw [this] at t227; exact t227
        · rw [ite_n (by decide)]
          cases lo with
          | true =>
            rw [ite_n (by decide)]
            have : cb b 1 j = false := by unfold cb; rw [if_neg (by decide), decide_eq_false (by have := hlo.mp rfl; omega)]
            rw [this] at t227; exact t227
          | false =>
            rw [ite_p (by decide)]
            have : cb b 1 j = true := by
              unfold cb; rw [if_neg (by decide), decide_eq_true (by
                rcases Nat.lt_or_ge b j with z | z
                · exact z
                · have := hlo.mpr z; cases this)]
            rw [this] at t227; exact t227
      by_cases c : j ≤ b
      · rw [ite_n (fun q => by have := i_lt.mp q; rw [t_of (by omega), t_of (by omega)] at this; omega)]
        unfold mL_isStep_b180
        rw [ite_n (by decide), e_sum h (by omega) (by omega), cap_e]
        have ef : fa (LL l0 its) b j = ps (LL l0 its) (b + 1) - ps (LL l0 its) j := by unfold fa; rw [if_pos c]
        rw [← ef]
        exact t206 true (by simp [c])
      · rw [ite_p (i_lt.mpr (by rw [t_of (by omega), t_of (by omega)]; omega))]
        unfold mL_isStep_b180
        rw [ite_p rfl, e1, e_sum h (by omega) hjn, cap_e]
        have ef : fa (LL l0 its) b j = ps (LL l0 its) (j + 1) - ps (LL l0 its) (b + 1) := by unfold fa; rw [if_neg c]
        rw [← ef]
        exact t206 false (by simp [c])
theorem e_isStep (h : ZZ nb l0 its c1 c2 c3 c4 M) (hb : b < nb) (hs : s < 2) (b0 : Nat) : ∃ M', mL_isStep 135 b0 0 (Int32.ofNat b) (Int32.ofNat s) M = some (M', Sum.inl 1) ∧ ZZ nb l0 its c1 c2 c3 c4 M' := by
  obtain ⟨hL, hl, h5, h1⟩ := h.ln
  obtain ⟨u2, u7, u8⟩ := Zup h
  have g3 := h.1.2.2.2.2.2.2.2.2.1
  have g4 := h.1.2.2.2.2.2.2.2.2.2
  have hlen := h.2.1.2.2.2.1
  have hni := h.1.2.2.1
  have e1 : Int32.ofNat b + (1 : Int32) = Int32.ofNat (b + 1) := o_add (b := 1) (by omega)
  have hbk := bkR_b (s := s) hL (by omega : b + 1 < (LL l0 its).length)
  obtain ⟨M1, q1, z1⟩ := zx h (sX6_gauge (x1 := Int32.ofNat b) (x2 := Int32.ofNat s) h.2.2) (p_gauge hL hl h5 hb hs h.nm)
  obtain ⟨M2, q2, z2⟩ := zx z1 (sX6_top (x1 := Int32.ofNat b) (x2 := Int32.ofNat s) z1.2.2) (p_top hL hl h5 hb hs z1.nm)
  obtain ⟨M3, q3, z3⟩ := zx z2 (sX6_hitting (x1 := Int32.ofNat b) (x2 := Int32.ofNat s) z2.2.2) (p_hitting hL hl h5 hb hs z2.nm)
  obtain ⟨M4, q4, z4⟩ := zx z3 (sX6_reason (x1 := Int32.ofNat b) (x2 := Int32.ofNat s) z3.2.2) (p_reason hL hl h5 hb hs (by omega) (by omega) z3.nm)
  obtain ⟨M5, q5, z5⟩ := zx z4 (sX6_costOf (x1 := Int32.ofNat b) (x2 := Int32.ofNat s) z4.2.2) (p_costOf hL hl h5 hb hs z4.nm)
  obtain ⟨M6, q6, z6⟩ := e_legs hb hs rfl b0 5000 0 M5 z5 (by omega) (by omega)
  refine ⟨M6, ?_, z6⟩
  have t102 : mL_isStep_b102 135 b0 0 (Int32.ofNat b) (Int32.ofNat s) (Int32.ofNat (bkR (LL l0 its) b s)) (Int32.ofNat (upR (LL l0 its) b s)) (Int32.ofNat (rsn (LL l0 its) (100 * c3) (500 + 100 * c4) b s)) M = some (M6, Sum.inl 1) := by
    unfold mL_isStep_b102
    rw [q1, calx_i, ite_p rfl, q2, calx_i, ite_p rfl, q3, calx_i, ite_p rfl, q4, calx_i, ite_p rfl, q5, calx_i, ite_p rfl]
    exact q6
  have t73 : ∀ j : Nat, j ≤ nb → (j = if s = 0 then b + 1 else b) → mL_isStep_b73 135 b0 0 (Int32.ofNat b) (Int32.ofNat s) (Int32.ofNat (bkR (LL l0 its) b s)) (Int32.ofNat (upR (LL l0 its) b s)) (Int32.ofNat ((LL l0 its).getD j 0)) M = some (M6, Sum.inl 1) := by
    intro j hj ej
    have hv := hL.at (j := j) (by omega)
    have er : rsn (LL l0 its) (100 * c3) (500 + 100 * c4) b s = if (LL l0 its).getD j 0 < 100 * c3 then 2 else if 500 + 100 * c4 < bkR (LL l0 its) b s then 3 else 0 := by unfold rsn; rw [← ej]
    unfold mL_isStep_b73
    rw [u7, u8]
    by_cases k1 : (LL l0 its).getD j 0 < 100 * c3
    · rw [ite_n (fun q => by have := i_le.mp q; rw [t_of (by omega), t_of (by omega)] at this; omega)]
      rw [er, if_pos k1] at t102
      exact t102
    · rw [ite_p (i_le.mpr (by rw [t_of (by omega), t_of (by omega)]; omega))]
      rw [er, if_neg k1] at t102
      by_cases k2 : 500 + 100 * c4 < bkR (LL l0 its) b s
      · rw [ite_n (fun q => by have := i_le.mp q; rw [t_of (by omega), t_of (by omega)] at this; omega)]
        rw [if_pos k2] at t102
        exact t102
      · rw [ite_p (i_le.mpr (by rw [t_of (by omega), t_of (by omega)]; omega))]
        rw [if_neg k2] at t102
        exact t102
  have sA : mL_sum 135 b0 (0 : Int32) (Int32.ofNat b) M = some (Int32.ofNat (ps (LL l0 its) (b + 1))) := by
    have r := e_sum (b0 := b0) h (i := 0) (j := b) (by omega) (by omega)
    rw [ps_0, Nat.sub_zero] at r
    exact r
  have sB : mL_sum 135 b0 (Int32.ofNat (b + 1)) (Int32.ofNat nb) M = some (Int32.ofNat (ps (LL l0 its) (LL l0 its).length - ps (LL l0 its) (b + 1))) := by
    have r := e_sum (b0 := b0) h (i := b + 1) (j := nb) (by omega) (by omega)
    rw [← hl] at r
    exact r
  unfold mL_isStep mL_isStep_b24 mL_isStep_b50
  have hs2 : s = 0 ∨ s = 1 := by omega
  rcases hs2 with rfl | rfl
  · have eb : bkR (LL l0 its) b 0 = ps (LL l0 its) (b + 1) := by unfold bkR; rw [if_pos rfl]
    have eu : upR (LL l0 its) b 0 = ps (LL l0 its) (LL l0 its).length - ps (LL l0 its) (b + 1) := by unfold upR; rw [if_pos rfl]
    rw [ite_p (show Int32.ofNat 0 = 0 from rfl), sA, cap_e, ite_p (show Int32.ofNat 0 = 0 from rfl), e1, u2, sB, cap_e, ite_p (show Int32.ofNat 0 = 0 from rfl), chk_t (o_ok (by omega) (by omega)), c_of (by omega), show rd M (135 + 2) (b + 1) = Int32.ofNat ((LL l0 its).getD (b + 1) 0) from hlen (b + 1) (by omega), ← eu, ← eb]
    exact t73 (b + 1) (by omega) rfl
  · have eb : bkR (LL l0 its) b 1 = ps (LL l0 its) (LL l0 its).length - ps (LL l0 its) (b + 1) := by unfold bkR; rw [if_neg (by decide)]
    have eu : upR (LL l0 its) b 1 = ps (LL l0 its) (b + 1) := by unfold upR; rw [if_neg (by decide)]
    rw [ite_n (by decide), e1, u2, sB, cap_e, ite_n (by decide), sA, cap_e, ite_n (by decide), chk_t (o_ok (by omega) (by omega)), c_of (by omega), show rd M (135 + 2) b = Int32.ofNat ((LL l0 its).getD b 0) from hlen b (by omega), ← eb, ← eu]
    exact t73 b (by omega) rfl
end LWx
