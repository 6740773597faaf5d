/-! what the class holds when the law's text is loaded -/
section LDy
variable {M M0 : Mem}
/-- the statements of the law's text -/
def stsL (l0 : Nat) (its : List (Bool × Nat)) (c1 c2 c3 c4 : Nat) : List Stm := (5, 300, 100 * c1) :: (7, 200, 100 * c2) :: (9, 100 * c3, 0) :: (8, 0, 500 + 100 * c4) :: (1, l0, 0) :: its.map (fun q => (if q.1 then 2 else 3, q.2, 0))
theorem lit_1 : stN 15 = stN 5 ++ 32 :: (dg 300 ++ [32]) ∧ stN 16 = 59 :: (stN 7 ++ 32 :: (dg 200 ++ [32])) ∧ stN 17 = 59 :: (stN 9 ++ [32]) ∧ stN 18 = 59 :: (stN 8 ++ 32 :: (dg 0 ++ [32])) ∧ stN 12 = [59] ∧ stN 11 = stN 1 ++ [32] ∧ stN 13 = stN 2 ++ [32] ∧ stN 14 = stN 3 ++ [32] := by decide +kernel
theorem cw_1 : cntW 5 = 2 ∧ cntW 7 = 2 ∧ cntW 9 = 1 ∧ cntW 8 = 2 ∧ cntW 1 = 1 ∧ cntW 2 = 1 ∧ cntW 3 = 1 := by decide
theorem bt_eq {q : Bool × Nat} : bt q = stx (if q.1 then 2 else 3, q.2, 0) := by
  obtain ⟨-, -, -, -, z2, -, z7, z8⟩ := lit_1
  unfold bt stx sw1
  obtain ⟨b, v⟩ := q
  cases b with
  | true =>
    show stN 13 ++ dg v ++ stN 12 = if cntW 2 = 2 then _ else stN 2 ++ 32 :: (dg v ++ [59])
    rw [if_neg (by decide), z7, z2]
    simp only [List.append_assoc, List.cons_append, List.nil_append]
  | false =>
    show stN 14 ++ dg v ++ stN 12 = if cntW 3 = 2 then _ else stN 3 ++ 32 :: (dg v ++ [59])
    rw [if_neg (by decide), z8, z2]
    simp only [List.append_assoc, List.cons_append, List.nil_append]
theorem tx_sts {l0 c1 c2 c3 c4 : Nat} {its : List (Bool × Nat)} : t0L c1 c2 c3 c4 ++ txs l0 its = (stsL l0 its c1 c2 c3 c4).flatMap stx := by
  obtain ⟨y5, y6, y7, y8, z2, z1, -, -⟩ := lit_1
  have e5 : stx (5, 300, 100 * c1) = stN 5 ++ 32 :: (dg 300 ++ 32 :: (dg (100 * c1) ++ [59])) := by unfold stx sw2; rw [if_pos cw_1.1]
  have e7 : stx (7, 200, 100 * c2) = stN 7 ++ 32 :: (dg 200 ++ 32 :: (dg (100 * c2) ++ [59])) := by unfold stx sw2; rw [if_pos cw_1.2.1]
  have e9 : stx (9, 100 * c3, 0) = stN 9 ++ 32 :: (dg (100 * c3) ++ [59]) := by unfold stx sw1; rw [if_neg (by show ¬ cntW 9 = 2; decide)]
  have e8 : stx (8, 0, 500 + 100 * c4) = stN 8 ++ 32 :: (dg 0 ++ 32 :: (dg (500 + 100 * c4) ++ [59])) := by unfold stx sw2; rw [if_pos cw_1.2.2.2.1]
  have e1 : stx (1, l0, 0) = stN 1 ++ 32 :: (dg l0 ++ [59]) := by unfold stx sw1; rw [if_neg (by show ¬ cntW 1 = 2; decide)]
  have eb : its.flatMap bt = (its.map (fun q => ((if q.1 then 2 else 3, q.2, 0) : Stm))).flatMap stx := by
    rw [List.flatMap_map]
    congr 1
    funext q
    exact bt_eq
  unfold stsL
  rw [List.flatMap_cons, List.flatMap_cons, List.flatMap_cons, List.flatMap_cons, List.flatMap_cons, e5, e7, e9, e8, e1, ← eb]
  unfold t0L txs
  rw [y5, y6, y7, y8, z2, z1]
  simp only [List.append_assoc, List.cons_append, List.nil_append]
/-- the tools when all is read -/
def tlF (c1 c2 c3 c4 : Nat) (j : Nat) : Nat := if j = 0 then 300 else if j = 1 then 100 * c1 else if j = 2 then 300 else if j = 3 then 600 else if j = 4 then 200 else if j = 5 then 100 * c2 else if j = 6 then 0 else if j = 7 then 500 + 100 * c4 else if j = 8 then 100 * c3 else 0
def tl0 (j : Nat) : Nat := if j = 0 then 300 else if j = 1 then 600 else if j = 2 then 300 else if j = 3 then 600 else if j = 4 then 200 else if j = 5 then 400 else if j = 7 then 9999 else 0
/-- the bits of the bends that go up -/
def ubs : List (Bool × Nat) → Nat → Nat → Nat
  | [], _, U => U
  | q :: r, m, U => ubs r (m + 1) (if q.1 then U ||| 2 ^ (m - 1) else U)
theorem eff_bends : ∀ (its : List (Bool × Nat)) (L : List Nat) (U : Nat) (t : Nat → Nat), effL (its.map (fun q => ((if q.1 then 2 else 3, q.2, 0) : Stm))) (L, U, t) = (L ++ its.map (fun q => q.2), ubs its L.length U, t) := by
  intro its
  induction its with
  | nil => intro L U t; show (L, U, t) = (L ++ [], U, t); rw [List.append_nil]
  | cons q r IH =>
    intro L U t
    obtain ⟨b, v⟩ := q
    show effL (r.map _) (eff (if b then 2 else 3, v, 0) (L, U, t)) = _
    have e : eff (if b then 2 else 3, v, 0) (L, U, t) = (L ++ [v], if b then U ||| 2 ^ (L.length - 1) else U, t) := by
      unfold eff
      cases b
      · rfl
      · rfl
    rw [e, IH, List.length_append, List.length_singleton, List.append_assoc]
    rfl
theorem ubs_ok : ∀ (its : List (Bool × Nat)) (m U : Nat), 1 ≤ m → m + its.length ≤ 9 → U < 2 ^ (m - 1) → ubs its m U < 2 ^ (m - 1 + its.length) ∧ (∀ b, b < m - 1 → (ubs its m U).testBit b = U.testBit b) ∧ ∀ b, b < its.length → (ubs its m U).testBit (m - 1 + b) = (its.getD b (false, 0)).1 := by
  intro its
  induction its with
  | nil => intro m U _ _ hU; exact ⟨hU, fun _ _ => rfl, fun b hb => absurd hb (by simp)⟩
  | cons q r IH =>
    intro m U h1 h9 hU
    rw [List.length_cons] at h9
    have hp : 2 ^ (m + 1 - 1) = 2 * 2 ^ (m - 1) := by rw [show m + 1 - 1 = (m - 1) + 1 by omega, Nat.pow_succ]; omega
    have hU2 : (if q.1 then U ||| 2 ^ (m - 1) else U) < 2 ^ (m + 1 - 1) := by
      split
      · exact Nat.or_lt_two_pow (by omega) (by rw [hp]; have := Nat.two_pow_pos (m - 1); omega)
      · omega
    obtain ⟨a1, a2, a3⟩ := IH (m + 1) _ (by omega) (by omega) hU2
    have hbit : (if q.1 then U ||| 2 ^ (m - 1) else U).testBit (m - 1) = q.1 := by
      have hz : U.testBit (m - 1) = false := Nat.testBit_lt_two_pow hU
      cases q.1
      · exact hz
      · show (U ||| 2 ^ (m - 1)).testBit (m - 1) = true
        rw [Nat.testBit_or, Nat.testBit_two_pow_self]; simp
    refine ⟨?_, fun b hb => ?_, fun b hb => ?_⟩
    · show ubs r (m + 1) _ < _
      rw [List.length_cons, show m - 1 + (r.length + 1) = m + 1 - 1 + r.length by omega]; exact a1
    · show (ubs r (m + 1) _).testBit b = _
      rw [a2 b (by omega)]
      cases q.1
      · rfl
      · show (U ||| 2 ^ (m - 1)).testBit b = _
        rw [Nat.testBit_or, Nat.testBit_two_pow_of_ne (by omega)]; simp
    · show (ubs r (m + 1) _).testBit _ = _
      cases b with
      | zero =>
        show (ubs r (m + 1) (if q.1 then U ||| 2 ^ (m - 1) else U)).testBit (m - 1) = q.1
        rw [a2 (m - 1) (by omega), hbit]
      | succ b =>
        rw [List.length_cons] at hb
        have := a3 b (by omega)
        rw [show m + 1 - 1 + b = m - 1 + (b + 1) by omega] at this
        rw [this]; rfl
theorem effL_cons {q : Stm} {S : List Stm} {s : Pst} : effL (q :: S) s = effL S (eff q s) := rfl
theorem eff_all {l0 c1 c2 c3 c4 : Nat} {its : List (Bool × Nat)} : (effL (stsL l0 its c1 c2 c3 c4) ([], 0, tl0)).1 = l0 :: its.map (fun q => q.2) ∧ (effL (stsL l0 its c1 c2 c3 c4) ([], 0, tl0)).2.1 = ubs its 1 0 ∧ ∀ j, j < 10 → (effL (stsL l0 its c1 c2 c3 c4) ([], 0, tl0)).2.2 j = tlF c1 c2 c3 c4 j := by
  have e : effL (stsL l0 its c1 c2 c3 c4) ([], 0, tl0) = effL (its.map (fun q => ((if q.1 then 2 else 3, q.2, 0) : Stm))) ([l0], 0, (eff (8, 0, 500 + 100 * c4) (eff (9, 100 * c3, 0) (eff (7, 200, 100 * c2) (eff (5, 300, 100 * c1) ([], 0, tl0))))).2.2) := rfl
  rw [e, eff_bends]
  refine ⟨rfl, rfl, fun j hj => ?_⟩
  show (eff (8, 0, 500 + 100 * c4) (eff (9, 100 * c3, 0) (eff (7, 200, 100 * c2) (eff (5, 300, 100 * c1) ([], 0, tl0))))).2.2 j = _
  have h10 : j = 0 ∨ j = 1 ∨ j = 2 ∨ j = 3 ∨ j = 4 ∨ j = 5 ∨ j = 6 ∨ j = 7 ∨ j = 8 ∨ j = 9 := by omega
  rcases h10 with rfl | rfl | rfl | rfl | rfl | rfl | rfl | rfl | rfl | rfl <;> rfl
theorem okL_bends : ∀ (its : List (Bool × Nat)) (L : List Nat) (U : Nat) (t : Nat → Nat), 0 < L.length → L.length + its.length ≤ 9 → U < 2 ^ (L.length - 1) → (∀ q ∈ its, 100 ≤ q.2 ∧ q.2 < 700) → okL (its.map (fun q => ((if q.1 then 2 else 3, q.2, 0) : Stm))) (L, U, t) := by
  intro its
  induction its with
  | nil => intro L U t _ _ _ _; trivial
  | cons q r IH =>
    intro L U t h0 h9 hU hv
    rw [List.length_cons] at h9
    have hq := hv q (by simp)
    obtain ⟨b, v⟩ := q
    have hq : 100 ≤ v ∧ v < 700 := hq
    have h256 : U < 256 := Nat.lt_of_lt_of_le hU (by have : 2 ^ (L.length - 1) ≤ 2 ^ 8 := Nat.pow_le_pow_right (by decide) (by omega); omega)
    refine ⟨⟨by show v < 4000; omega, by show 0 < 4000; decide, h256, Or.inr (Or.inl ⟨?_, h0, by show L.length < 9; omega, by show 1 ≤ v; omega⟩)⟩, ?_⟩
    · cases b
      · exact Or.inr rfl
      · exact Or.inl rfl
    · have e : eff (if b then 2 else 3, v, 0) (L, U, t) = (L ++ [v], if b then U ||| 2 ^ (L.length - 1) else U, t) := by
        unfold eff
        cases b
        · rfl
        · rfl
      show okL _ (eff (if b then 2 else 3, v, 0) (L, U, t))
      rw [e]
      refine IH _ _ _ (by rw [List.length_append, List.length_singleton]; omega) (by rw [List.length_append, List.length_singleton]; omega) ?_ (fun x hx => hv x (List.mem_cons_of_mem _ hx))
      rw [List.length_append, List.length_singleton]
      have hp : 2 ^ (L.length + 1 - 1) = 2 * 2 ^ (L.length - 1) := by rw [show L.length + 1 - 1 = (L.length - 1) + 1 by omega, Nat.pow_succ]; omega
      split
      · exact Nat.or_lt_two_pow (by omega) (by rw [hp]; have := Nat.two_pow_pos (L.length - 1); omega)
      · omega
theorem okL_all {l0 c1 c2 c3 c4 : Nat} {its : List (Bool × Nat)} (hI : Its l0 its) (hn : its.length ≤ 5) (h1 : c1 < 9) (h2 : c2 < 9) (h3 : c3 < 4) (h4 : c4 < 30) : okL (stsL l0 its c1 c2 c3 c4) ([], 0, tl0) := by
  have l1 := hI.1.1
  have l2 := hI.1.2
  refine ⟨⟨by show 300 < 4000; decide, by show 100 * c1 < 4000; omega, by show 0 < 256; decide, Or.inr (Or.inr (Or.inl rfl))⟩, ⟨by show 200 < 4000; decide, by show 100 * c2 < 4000; omega, by show 0 < 256; decide, Or.inr (Or.inr (Or.inr (Or.inl rfl)))⟩, ⟨by show 100 * c3 < 4000; omega, by show 0 < 4000; decide, by show 0 < 256; decide, Or.inr (Or.inr (Or.inr (Or.inr (Or.inl rfl))))⟩, ⟨by show 0 < 4000; decide, by show 500 + 100 * c4 < 4000; omega, by show 0 < 256; decide, Or.inr (Or.inr (Or.inr (Or.inr (Or.inr ⟨rfl, by show 0 ≤ 500 + 100 * c4; omega⟩))))⟩, ⟨by show l0 < 4000; omega, by show 0 < 4000; decide, by show 0 < 256; decide, Or.inl ⟨rfl, rfl, by show 1 ≤ l0; omega⟩⟩, ?_⟩
  exact okL_bends its [l0] 0 _ (by simp) (by rw [List.length_singleton]; omega) (by show 0 < 2 ^ 0; decide) hI.2
/-- the class when all is loaded -/
def CSt (nb l0 : Nat) (its : List (Bool × Nat)) (c1 c2 c3 c4 : Nat) (M : Mem) : Prop := SPt 5 (l0 :: its.map (fun q => q.2)) (ubs its 1 0) (tlF c1 c2 c3 c4) M ∧ rd M 2 0 = 0 ∧ its.length = nb ∧ 1 ≤ nb ∧ nb ≤ 5 ∧ Its l0 its ∧ (c1 < 9 ∧ c2 < 9 ∧ c3 < 4 ∧ c4 < 30)
theorem SPt.to {k : Nat} {L : List Nat} {U : Nat} {t t' : Nat → Nat} (h : SPt k L U t M) (e : ∀ j, j < 10 → t j = t' j) : SPt k L U t' M := ⟨h.1, h.2.1, h.2.2.1, h.2.2.2.1, fun j hj => by rw [← e j hj]; exact h.2.2.2.2.1 j hj, h.2.2.2.2.2.1, h.2.2.2.2.2.2⟩
theorem SPt.copy {L : List Nat} {U : Nat} {t : Nat → Nat} {M' : Mem} (h : SPt 13 L U t M) (hL : L.length ≤ 9) (h1 : ∀ j, j ≤ 14 → j ≠ 1 → j ≠ 6 → j ≠ 11 → j ≠ 12 → rd M' 5 j = rd M 13 j) (h2 : ∀ j, j < 9 → rd M' (5 + 1) j = rd M (13 + 1) j) (h3 : ∀ j, j < 10 → rd M' (5 + 2) j = rd M (13 + 2) j) : SPt 5 L U t M' := by
  obtain ⟨a1, a2, a3, a4, a5, a6, a7⟩ := h
  exact ⟨(h1 0 (by omega) (by omega) (by omega) (by omega) (by omega)).trans a1, fun j hj => (h2 j (by omega)).trans (a2 j hj), (h1 2 (by omega) (by omega) (by omega) (by omega) (by omega)).trans a3, (h1 10 (by omega) (by omega) (by omega) (by omega) (by omega)).trans a4, fun j hj => (h3 j hj).trans (a5 j hj), (h1 13 (by omega) (by omega) (by omega) (by omega) (by omega)).trans a6, (h1 14 (by omega) (by omega) (by omega) (by omega) (by omega)).trans a7⟩
/-- what load writes -/
abbrev SLd (k _ : Nat) : Prop := k < 135
theorem ld_text {l0 c1 c2 c3 c4 nb p : Nat} {its : List (Bool × Nat)} {u : List Nat} (hu : u = (stsL l0 its c1 c2 c3 c4).flatMap stx) (h7 : As7 u) (hlu : u.length ≤ 200) (hn : its.length = nb) (h1 : 1 ≤ nb) (h5 : nb ≤ 5) (hI : Its l0 its) (g1 : c1 < 9) (g2 : c2 < 9) (g3 : c3 < 4) (g4 : c4 < 30) (hB : BUF p (uc u) M) (hp : u.length ≤ p) (hp2 : p ≤ 220) : Pc (mX6_load 0 (Int32.ofNat u.length) M) (fun q => q.2 = Sum.inl (Int32.ofNat nb) ∧ CSt nb l0 its c1 c2 c3 c4 q.1 ∧ KS SLd M q.1) := by
  unfold mX6_load
  refine Pc.i (fun c => ?_) (fun _ => Pc.i (fun _ => Pc.b (fun M3 e3 => ?_)) (fun c => ?_))
  · have := i_lt.mp c
    rw [t_of (by omega), Int32.toInt_zero] at this
    omega
  · have k3 : KS SLd M M3 := by rw [e3]; exact KS.rf.wr (by decide)
    have rt : Pc (mX4_readText 2 1 13 (Int32.ofNat u.length) M3) (fun y => y.2 = 1 ∧ rd y.1 2 0 = 0 ∧ KS SLd M3 y.1 ∧ SPt 13 (l0 :: its.map (fun q => q.2)) (ubs its 1 0) (tlF c1 c2 c3 c4) y.1) := by
      unfold mX4_readText
      refine Pc.k (fun _ => Pc.b (fun M1 e1 => Pc.i (fun c => ?_) (fun _ => ?_)))
      · have := i_lt.mp c
        rw [t_of (by omega), show ((600 : Int32)).toInt = 600 from rfl] at this
        omega
      · unfold mX4_readText_b18
        refine Pc.b (fun M5 e5 => Pc.b (fun M7 e7 => Pc.b (fun M9 e9 => Pc.b (fun M11 e11 => ?_))))
        rw [i_clear, cal_e]
        have hS : ∀ N : Mem, SPt 13 [] 0 tl0 (wr (wr (wr (wr (wr (wr (wr (wr (wr (wr (wr (wr (wr (wr (wr (wr (wr (wr (wr (wr (wr N 13 0 0) 13 2 0) 13 10 0) 13 3 10) 13 4 10) 13 5 40) (13 + 2) 0 300) (13 + 2) 1 600) (13 + 2) 2 300) (13 + 2) 3 600) (13 + 2) 4 200) (13 + 2) 5 400) (13 + 2) 6 0) (13 + 2) 7 9999) (13 + 2) 8 0) (13 + 2) 9 0) 13 7 1) 13 8 1) 13 9 1) 13 13 0) 13 14 0) := by
          intro N
          refine ⟨?_, fun j hj => absurd hj (by simp), ?_, ?_, fun j hj => ?_, ?_, ?_⟩
          · simp [rd_eq]
          · simp [rd_eq]
          · simp [rd_eq]
          · have h10 : j = 0 ∨ j = 1 ∨ j = 2 ∨ j = 3 ∨ j = 4 ∨ j = 5 ∨ j = 6 ∨ j = 7 ∨ j = 8 ∨ j = 9 := by omega
            rcases h10 with rfl | rfl | rfl | rfl | rfl | rfl | rfl | rfl | rfl | rfl <;> simp [rd_eq, tl0] <;> rfl
          · simp [rd_eq]
          · simp [rd_eq]
        have hS := hS M11
        have kc : KS SLd M11 (wr (wr (wr (wr (wr (wr (wr (wr (wr (wr (wr (wr (wr (wr (wr (wr (wr (wr (wr (wr (wr M11 13 0 0) 13 2 0) 13 10 0) 13 3 10) 13 4 10) 13 5 40) (13 + 2) 0 300) (13 + 2) 1 600) (13 + 2) 2 300) (13 + 2) 3 600) (13 + 2) 4 200) (13 + 2) 5 400) (13 + 2) 6 0) (13 + 2) 7 9999) (13 + 2) 8 0) (13 + 2) 9 0) 13 7 1) 13 8 1) 13 9 1) 13 13 0) 13 14 0) ∧ ∀ c j, c ≠ 13 → c ≠ 15 → rd (wr (wr (wr (wr (wr (wr (wr (wr (wr (wr (wr (wr (wr (wr (wr (wr (wr (wr (wr (wr (wr M11 13 0 0) 13 2 0) 13 10 0) 13 3 10) 13 4 10) 13 5 40) (13 + 2) 0 300) (13 + 2) 1 600) (13 + 2) 2 300) (13 + 2) 3 600) (13 + 2) 4 200) (13 + 2) 5 400) (13 + 2) 6 0) (13 + 2) 7 9999) (13 + 2) 8 0) (13 + 2) 9 0) 13 7 1) 13 8 1) 13 9 1) 13 13 0) 13 14 0) c j = rd M11 c j := by
          have h : ∀ c j, c ≠ 13 → c ≠ 15 → rd (wr (wr (wr (wr (wr (wr (wr (wr (wr (wr (wr (wr (wr (wr (wr (wr (wr (wr (wr (wr (wr M11 13 0 0) 13 2 0) 13 10 0) 13 3 10) 13 4 10) 13 5 40) (13 + 2) 0 300) (13 + 2) 1 600) (13 + 2) 2 300) (13 + 2) 3 600) (13 + 2) 4 200) (13 + 2) 5 400) (13 + 2) 6 0) (13 + 2) 7 9999) (13 + 2) 8 0) (13 + 2) 9 0) 13 7 1) 13 8 1) 13 9 1) 13 13 0) 13 14 0) c j = rd M11 c j := fun c j h1 h2 => by
            repeat (rw [rd_wk (by omega)])
          exact ⟨fun c j hc => h c j (fun e => hc (by rw [e]; show 13 < 135; decide)) (fun e => hc (by rw [e]; show 15 < 135; decide)), h⟩
        generalize (wr (wr (wr (wr (wr (wr (wr (wr (wr (wr (wr (wr (wr (wr (wr (wr (wr (wr (wr (wr (wr M11 13 0 0) 13 2 0) 13 10 0) 13 3 10) 13 4 10) 13 5 40) (13 + 2) 0 300) (13 + 2) 1 600) (13 + 2) 2 300) (13 + 2) 3 600) (13 + 2) 4 200) (13 + 2) 5 400) (13 + 2) 6 0) (13 + 2) 7 9999) (13 + 2) 8 0) (13 + 2) 9 0) 13 7 1) 13 8 1) 13 9 1) 13 13 0) 13 14 0) = MC at hS kc
        obtain ⟨kC, oC⟩ := kc
        have k11 : KS (fun k j => k = 2) M3 M11 := fun k j hk => by rw [e11, e9, e7, e5, e1, rd_wk (show k ≠ 2 from hk), rd_wk (show k ≠ 2 from hk), rd_wk (show k ≠ 2 from hk), rd_wk (show k ≠ 2 from hk), rd_wk (show k ≠ 2 from hk)]
        have kk : KS SLd M3 MC := (k11.mono (fun k j h => by show k < 135; omega)).trans kC
        have g3' : rd MC 2 3 = Int32.ofNat u.length := by rw [oC 2 3 (by omega) (by omega), e11, rd_eq, if_neg (by omega), e9, rd_eq, if_neg (by omega), e7, rd_eq, if_neg (by omega), e5, rd_we]
        have g5' : rd MC 2 5 = 0 := by rw [oC 2 5 (by omega) (by omega), e11, rd_eq, if_neg (by omega), e9, rd_eq, if_neg (by omega), e7, rd_we]
        have g0' : rd MC 2 0 = 0 := by rw [oC 2 0 (by omega) (by omega), e11, rd_eq, if_neg (by omega), e9, rd_we]
        have hTu : Tu u MC := ⟨g3', by omega, h7, fun j hj => by
          rw [oC 1 j (by omega) (by omega), k11 1 j (by show ¬ ((1 : Nat) = 2); decide), e3, rd_wk (by omega), hB.2 j (by omega)]
          unfold uc
          rw [if_pos hj]⟩
        obtain ⟨f1, f2, f3⟩ := eff_all (l0 := l0) (c1 := c1) (c2 := c2) (c3 := c3) (c4 := c4) (its := its)
        have hlen : (stsL l0 its c1 c2 c3 c4).length = 5 + its.length := by unfold stsL; simp; omega
        refine (rs_run (u := u) (stsL l0 its c1 c2 c3 c4) ([], 0, tl0) [] MC 0 5000 (by rw [hu]; rfl) hTu g5' g0' hS (okL_all hI (by omega) g1 g2 g3 g4) (by rw [hlen]; omega)).mono (fun y hy => ⟨hy.1, hy.2.1, kk.trans (hy.2.2.1.mono (fun k j h => by show k < 135; rcases h with h | h | h <;> omega)), ?_⟩)
        have h4 := hy.2.2.2
        rw [f1, f2] at h4
        exact h4.to f3
    refine Pc.m rt (fun M7 r6 ⟨r1, r0, k7, S7⟩ => ?_)
    have r1 : r6 = 1 := r1
    subst r1
    refine Pc.i (fun c => absurd c (by decide)) (fun _ => ?_)
    refine Pc.m (pc_copyFrom (k := 5) (k' := 13) (by omega)) (fun M11 _ ⟨c1', c2', c3', _, k11⟩ => ?_)
    have hL9 : (l0 :: its.map (fun q => q.2)).length ≤ 9 := by rw [List.length_cons, List.length_map]; omega
    have S11 := S7.copy hL9 c1' c2' c3'
    unfold mX0_forgetAll
    refine Pc.m (Q := fun q => KS (fun k _ => k = 21) M11 q.1) (Pc.b (fun M1 e1 => Pc.ok (fun k j hk => by show rd M1 k j = _; rw [e1, rd_wk (show k ≠ 21 from hk)]))) (fun M14 _ k14 => ?_)
    have S14 := S11.ks k14 (fun c j h1 h2 => by omega)
    refine Pc.c pc_bc (fun r hr => Pc.ok ?_)
    have t0 : (rd M14 5 0).toInt = (nb : Int) + 1 := by rw [S14.1, List.length_cons, List.length_map, hn, t_of (by omega)]; omega
    have er : r = Int32.ofNat nb := by
      rcases hr with ⟨q, _⟩ | ⟨_, q⟩
      · omega
      · rw [q, i_eq, i_sub (by rw [t0]; show _ ≤ _ - (1 : Int); omega) (by rw [t0]; show _ - (1 : Int) ≤ _; omega), t0, t_of (by omega)]
        show (nb : Int) + 1 - 1 = _
        omega
    refine ⟨by rw [er], ⟨S14, ?_, hn, h1, h5, hI, g1, g2, g3, g4⟩, ((k3.trans k7).trans (k11.mono (fun k j h => by show k < 135; omega))).trans (k14.mono (fun k j h => by show k < 135; omega))⟩
    rw [k14 2 0 (by omega), k11 2 0 (by omega)]; exact r0
  · have := i_nle c
    rw [hB.1, t_of (by omega), t_of (by omega)] at this
    omega
end LDy
