/-! the greatest costs against the reference's -/
section CUH
variable {g : Gm} {k m a b c l : Nat} {M N N0 : Mem} {lc lg : Int32}
theorem high_l (h : CUa k m M N a l lc lg) (n8 : nb k M ≤ 8) (ha : a < 256) (hz : cntz a (nb k M) ≤ 8) : ∀ (fuel c : Nat) (x6 : Int32), c ≤ 16 → hrl x6 (highF (nb k M) N a l (min c (2 * nb k M))) (cntz a (nb k M)) → Pc (mX3_costOnward_l16 110 k M fuel (Int32.ofNat a) lc lg 0 x6 (Int32.ofNat c)) (fun r => hrl r (highF (nb k M) N a l (2 * nb k M)) (cntz a (nb k M))) := by
  obtain ⟨hP, hv, ho1, ho2, hK⟩ := h
  intro fuel
  induction fuel with
  | zero => intro c x6 _ _ q e; cases e
  | succ fuel IH =>
    intro c x6 hc hx
    show Pc (mX3_costOnward_b16 110 k M (mX3_costOnward_l16 110 k M fuel) (Int32.ofNat a) lc lg 0 x6 (Int32.ofNat c)) _
    unfold mX3_costOnward_b16 mX3_costOnward_b66 mX3_costOnward_b70 mX3_costOnward_b71
    have tc : (Int32.ofNat c).toInt = (c : Int) := t_of (by omega)
    have n16 : ((16 : Int32)).toInt = 16 := rfl
    have nm1 : ((-1 : Int32)).toInt = -1 := rfl
    refine Pc.i (fun c1 => Pc.ok ?_) (fun c1 => ?_)
    · have c1 := i_le.mp c1
      have e : c = 16 := by omega
      subst e
      rw [Nat.min_eq_right (by omega)] at hx
      exact hx
    have c1 := i_nle c1
    have next : ∀ y : Int32, hrl y (highF (nb k M) N a l (min (c + 1) (2 * nb k M))) (cntz a (nb k M)) → Pc (mX3_costOnward_b88 110 k M (mX3_costOnward_l16 110 k M fuel) (Int32.ofNat a) lc lg 0 y (Int32.ofNat c)) (fun r => hrl r (highF (nb k M) N a l (2 * nb k M)) (cntz a (nb k M))) := by
      intro y hy
      unfold mX3_costOnward_b88
      refine Pc.b (fun x ex => ?_)
      have e : x = Int32.ofNat (c + 1) := by rw [ex]; exact (Int32.ofNat_add c 1).symm
      rw [e]
      exact IH (c + 1) y (by omega) hy
    have skip : op M a c = false → highF (nb k M) N a l (min (c + 1) (2 * nb k M)) = highF (nb k M) N a l (min c (2 * nb k M)) := by
      intro ho
      by_cases q : c < 2 * nb k M
      · rw [Nat.min_eq_left (by omega), Nat.min_eq_left (by omega)]
        show (if cnb N a c = true then _ else _) = _
        rw [← ho1 c q, ho, if_neg (by decide)]; rfl
      · rw [Nat.min_eq_right (by omega), Nat.min_eq_right (by omega)]
    have c2n : op M a c = true → c < 2 * nb k M := fun ho => by
      by_cases q : c < 2 * nb k M
      · exact q
      · rw [ho2 c (by omega)] at ho; cases ho
    have one : ∀ {z : Int32}, (1 : Int32) = 0 → z = z + 1 := fun z => absurd z (by decide)
    refine Pc.c (pc_thr (k := k) (lc := lc) (lg := lg) (x6 := 0) ha (by omega) (fun ho => (hK c (c2n ho) ho).1)) (fun r7 p7 => ?_)
    rw [if_pos rfl] at p7
    -- a step that leads to no order
    have dead : r7 = -1 → hrl x6 (highF (nb k M) N a l (min (c + 1) (2 * nb k M))) (cntz a (nb k M)) → Pc (ite2 (x6 = (-1 : Int32)) (ite2 (r7 = (-1 : Int32)) (mX3_costOnward_b88 110 k M (mX3_costOnward_l16 110 k M fuel) (Int32.ofNat a) lc lg 0 x6 (Int32.ofNat c)) (ite2 ((1 : Int32) = 0) (mX3_costOnward_b88 110 k M (mX3_costOnward_l16 110 k M fuel) (Int32.ofNat a) lc lg 0 x6 (Int32.ofNat c)) (mX3_costOnward_b88 110 k M (mX3_costOnward_l16 110 k M fuel) (Int32.ofNat a) lc lg 0 r7 (Int32.ofNat c)))) (ite2 ((0 : Int32) = 0) (ite2 (r7 ≤ x6) (ite2 (r7 = (-1 : Int32)) (mX3_costOnward_b88 110 k M (mX3_costOnward_l16 110 k M fuel) (Int32.ofNat a) lc lg 0 x6 (Int32.ofNat c)) (ite2 ((0 : Int32) = 0) (mX3_costOnward_b88 110 k M (mX3_costOnward_l16 110 k M fuel) (Int32.ofNat a) lc lg 0 x6 (Int32.ofNat c)) (mX3_costOnward_b88 110 k M (mX3_costOnward_l16 110 k M fuel) (Int32.ofNat a) lc lg 0 r7 (Int32.ofNat c)))) (ite2 (r7 = (-1 : Int32)) (mX3_costOnward_b88 110 k M (mX3_costOnward_l16 110 k M fuel) (Int32.ofNat a) lc lg 0 x6 (Int32.ofNat c)) (ite2 ((1 : Int32) = 0) (mX3_costOnward_b88 110 k M (mX3_costOnward_l16 110 k M fuel) (Int32.ofNat a) lc lg 0 x6 (Int32.ofNat c)) (mX3_costOnward_b88 110 k M (mX3_costOnward_l16 110 k M fuel) (Int32.ofNat a) lc lg 0 r7 (Int32.ofNat c))))) (ite2 (x6 ≤ r7) (ite2 (r7 = (-1 : Int32)) (mX3_costOnward_b88 110 k M (mX3_costOnward_l16 110 k M fuel) (Int32.ofNat a) lc lg 0 x6 (Int32.ofNat c)) (ite2 ((0 : Int32) = 0) (mX3_costOnward_b88 110 k M (mX3_costOnward_l16 110 k M fuel) (Int32.ofNat a) lc lg 0 x6 (Int32.ofNat c)) (mX3_costOnward_b88 110 k M (mX3_costOnward_l16 110 k M fuel) (Int32.ofNat a) lc lg 0 r7 (Int32.ofNat c)))) (ite2 (r7 = (-1 : Int32)) (mX3_costOnward_b88 110 k M (mX3_costOnward_l16 110 k M fuel) (Int32.ofNat a) lc lg 0 x6 (Int32.ofNat c)) (ite2 ((1 : Int32) = 0) (mX3_costOnward_b88 110 k M (mX3_costOnward_l16 110 k M fuel) (Int32.ofNat a) lc lg 0 x6 (Int32.ofNat c)) (mX3_costOnward_b88 110 k M (mX3_costOnward_l16 110 k M fuel) (Int32.ofNat a) lc lg 0 r7 (Int32.ofNat c))))))) (fun r => hrl r (highF (nb k M) N a l (2 * nb k M)) (cntz a (nb k M))) := by
      intro e7 el
      have nx := next x6 el
      have dd : ∀ {y : Option Int32}, Pc (ite2 (r7 = (-1 : Int32)) (mX3_costOnward_b88 110 k M (mX3_costOnward_l16 110 k M fuel) (Int32.ofNat a) lc lg 0 x6 (Int32.ofNat c)) y) (fun r => hrl r (highF (nb k M) N a l (2 * nb k M)) (cntz a (nb k M))) := fun {y} => Pc.i (fun _ => nx) (fun z => absurd e7 z)
      exact Pc.i (fun _ => dd) (fun _ => Pc.i (fun _ => Pc.i (fun _ => dd) (fun _ => dd)) (fun _ => Pc.i (fun _ => dd) (fun _ => dd)))
    rcases p7 with ⟨ho, e7⟩ | ⟨ho, hb, e7⟩ | ⟨ho, hb, p, ep, e7⟩
    · exact dead e7 (by rw [skip ho]; exact hx)
    · refine dead e7 ?_
      have q := c2n ho
      have hk := hK c q ho
      have hvv := hv c q ho
      have el : highF (nb k M) N a l (min (c + 1) (2 * nb k M)) = imax (highF (nb k M) N a l (min c (2 * nb k M))) (cst N a l c + rd N (135 + 14) (17 * (a ||| 2 ^ (c / 2)) + c)) := by
        rw [Nat.min_eq_left (by omega), Nat.min_eq_left (by omega)]
        show (if cnb N a c = true then imax (highF (nb k M) N a l c) (cst N a l c + rd N (135 + 14) (17 * (a ||| 2 ^ (c / 2)) + c)) else _) = _
        rw [← ho1 c q, ho, if_pos rfl]
      rw [el]
      generalize highF (nb k M) N a l (min c (2 * nb k M)) = y at hx
      have hy : -1000000 ≤ (rd N (135 + 14) (17 * (a ||| 2 ^ (c / 2)) + c)).toInt ∧ (rd N (135 + 14) (17 * (a ||| 2 ^ (c / 2)) + c)).toInt ≤ -1000000 + 297 * ((cntz a (nb k M) - 1 : Nat) : Int) := by
        rcases hk.2.2.1 with ⟨_, q2⟩ | ⟨q1, _⟩
        · exact q2
        · rw [hb, nm1] at q1; omega
      have hs := i_add (a := cst N a l c) (b := rd N (135 + 14) (17 * (a ||| 2 ^ (c / 2)) + c)) (by omega) (by omega)
      have z1 := hk.2.2.2
      unfold imax
      by_cases z : y < cst N a l c + rd N (135 + 14) (17 * (a ||| 2 ^ (c / 2)) + c)
      · rw [if_pos z]
        have z := i_lt.mp z
        rcases hx with ⟨x1, x2, x3⟩ | ⟨x1, x2, x3⟩
        · exact Or.inl ⟨x1, by omega, by omega⟩
        · rw [x3] at z; exfalso; omega
      · rw [if_neg z]; exact hx
    · have q := c2n ho
      have hk := hK c q ho
      have hvv := hv c q ho
      have epc := hP c q ho p ep
      rw [← epc] at hvv
      have hb2 : 0 ≤ (rd M (110 + 22) (16 * (a ||| 2 ^ (c / 2)) + c)).toInt ∧ (rd M (110 + 22) (16 * (a ||| 2 ^ (c / 2)) + c)).toInt ≤ 297 * ((cntz a (nb k M) - 1 : Nat) : Int) ∧ rd N (135 + 14) (17 * (a ||| 2 ^ (c / 2)) + c) = rd M (110 + 22) (16 * (a ||| 2 ^ (c / 2)) + c) := by
        rcases hk.2.2.1 with ⟨q1, _⟩ | h
        · exact absurd q1 hb
        · exact h
      have z1 := hk.2.2.2
      have et := i_add (a := rd M (110 + 22) (16 * (a ||| 2 ^ (c / 2)) + c)) (b := p) (by omega) (by omega)
      rw [← e7] at et
      have r7n : ¬ r7 = -1 := fun z => by rw [z, nm1] at et; omega
      have ey : cst N a l c + rd N (135 + 14) (17 * (a ||| 2 ^ (c / 2)) + c) = r7 := by
        rw [← epc, hb2.2.2, e7]; exact Int32.add_comm _ _
      have el : highF (nb k M) N a l (min (c + 1) (2 * nb k M)) = imax (highF (nb k M) N a l (min c (2 * nb k M))) r7 := by
        rw [Nat.min_eq_left (by omega), Nat.min_eq_left (by omega)]
        show (if cnb N a c = true then imax (highF (nb k M) N a l c) (cst N a l c + rd N (135 + 14) (17 * (a ||| 2 ^ (c / 2)) + c)) else _) = _
        rw [← ho1 c q, ho, if_pos rfl, ey]
      have good : hrl r7 r7 (cntz a (nb k M)) := Or.inr ⟨by omega, by omega, rfl⟩
      generalize highF (nb k M) N a l (min c (2 * nb k M)) = y at hx el
      refine Pc.i (fun z => ?_) (fun z => Pc.i (fun _ => Pc.i (fun w => ?_) (fun w => ?_)) (fun w => absurd rfl w))
      · have hy : y.toInt ≤ -1000000 + 297 * (cntz a (nb k M) : Int) := by
          rcases hx with ⟨_, _, q2⟩ | ⟨q1, _⟩
          · exact q2
          · rw [z, nm1] at q1; omega
        refine Pc.i (fun w => absurd w r7n) (fun _ => Pc.i (fun w => absurd w (by decide)) (fun _ => next r7 ?_))
        rw [el]
        unfold imax
        rw [if_pos (i_lt.mpr (by omega))]
        exact good
      · have hy := hx.resolve_left (fun w => z w.1)
        have w := i_le.mp w
        refine Pc.i (fun w => absurd w r7n) (fun _ => Pc.i (fun _ => next x6 ?_) (fun w => absurd rfl w))
        rw [el, hy.2.2]
        unfold imax
        rw [if_neg (fun v => by have v := i_lt.mp v; omega)]
        exact Or.inr ⟨hy.1, hy.2.1, rfl⟩
      · have hy := hx.resolve_left (fun w => z w.1)
        have w := i_nle w
        refine Pc.i (fun w => absurd w r7n) (fun _ => Pc.i (fun w => absurd w (by decide)) (fun _ => next r7 ?_))
        rw [el, hy.2.2]
        unfold imax
        rw [if_pos (i_lt.mpr (by omega))]
        exact good
end CUH
