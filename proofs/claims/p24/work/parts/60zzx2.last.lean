/-! lastSteps, mostBends: alike -/
section LM
variable {g : Gm} {k n m a b s c l e : Nat} {M M' N N' N0 : Mem} {P : Mem × Unit → Prop} {x x1 : Int32}
theorem full_bit : ∀ n, n < 9 → ∀ t, t < n → (2 ^ n - 1).testBit t = true ∧ (2 ^ n - 1 - 2 ^ t) < 2 ^ n ∧ (2 ^ n - 1 - 2 ^ t) ||| 2 ^ t = 2 ^ n - 1 := by decide
theorem pc_atEnd {f : Nat → Int32} (hP : PR 5 M f) (hm : rd M 5 13 = Int32.ofNat m) (m2 : m < 2 ^ nb 5 M) : Pc (mX3_stepsAtTheEnd 110 5 M) (fun r => ∀ d, bt r d = true ↔ ∃ t, t < nb 5 M ∧ m.testBit t = false ∧ rc M (2 ^ nb 5 M - 1 - 2 ^ t) ∧ bt (rd M (110 + 17) (2 ^ nb 5 M - 1 - 2 ^ t)) d = true) := by
  have h9 := pr_9 hP
  have n8 := nb8 h9
  have m256 := n_256 n8 m2
  have p2 := z_pow (nb 5 M) (by omega)
  have key : ∀ (fuel t : Nat) (x : Int32), t ≤ nb 5 M → (∀ d, bt x d = true ↔ ∃ t', t' < t ∧ m.testBit t' = false ∧ rc M (2 ^ nb 5 M - 1 - 2 ^ t') ∧ bt (rd M (110 + 17) (2 ^ nb 5 M - 1 - 2 ^ t')) d = true) → Pc (mX3_stepsAtTheEnd_l10 110 5 M fuel (Int32.ofNat (2 ^ nb 5 M - 1)) x (Int32.ofNat t)) (fun r => ∀ d, bt r d = true ↔ ∃ t, t < nb 5 M ∧ m.testBit t = false ∧ rc M (2 ^ nb 5 M - 1 - 2 ^ t) ∧ bt (rd M (110 + 17) (2 ^ nb 5 M - 1 - 2 ^ t)) d = true) := by
    intro fuel
    induction fuel with
    | zero => intro t x _ _ q e; cases e
    | succ fuel IH =>
      intro t x ht h
      show Pc (mX3_stepsAtTheEnd_b10 110 5 M (mX3_stepsAtTheEnd_l10 110 5 M fuel) (Int32.ofNat (2 ^ nb 5 M - 1)) x (Int32.ofNat t)) _
      unfold mX3_stepsAtTheEnd_b10
      refine Pc.c (pc_bends h9) (fun r5 e5 => ?_)
      have tt : (Int32.ofNat t).toInt = (t : Int) := t_of (by omega)
      have t5 : r5.toInt = (nb 5 M : Int) := by rw [e5, t_of (by omega)]
      have fin : t = nb 5 M → Pc (some x) (fun r => ∀ d, bt r d = true ↔ ∃ t, t < nb 5 M ∧ m.testBit t = false ∧ rc M (2 ^ nb 5 M - 1 - 2 ^ t) ∧ bt (rd M (110 + 17) (2 ^ nb 5 M - 1 - 2 ^ t)) d = true) := fun e => by subst e; exact Pc.ok h
      refine Pc.i (fun c => fin (by have c := i_le.mp c; omega)) (fun c => Pc.i (fun c2 => fin (by have c2 := i_le.mp c2; rw [show ((8 : Int32)).toInt = 8 from rfl] at c2; omega)) (fun c2 => ?_))
      have c := i_nle c
      have fb := full_bit (nb 5 M) (by omega) t (by omega)
      have hx := f_ox (2 ^ nb 5 M - 1) (by omega) t (by omega)
      rw [if_pos fb.1] at hx
      rw [hx, hm]
      have hb0 := f_has0 m m256 t (by omega)
      have next : ∀ y : Int32, (∀ d, bt y d = true ↔ ∃ t', t' < t + 1 ∧ m.testBit t' = false ∧ rc M (2 ^ nb 5 M - 1 - 2 ^ t') ∧ bt (rd M (110 + 17) (2 ^ nb 5 M - 1 - 2 ^ t')) d = true) → Pc (mX3_stepsAtTheEnd_b68 110 5 M (mX3_stepsAtTheEnd_l10 110 5 M fuel) (Int32.ofNat (2 ^ nb 5 M - 1)) y (Int32.ofNat t)) (fun r => ∀ d, bt r d = true ↔ ∃ t, t < nb 5 M ∧ m.testBit t = false ∧ rc M (2 ^ nb 5 M - 1 - 2 ^ t) ∧ bt (rd M (110 + 17) (2 ^ nb 5 M - 1 - 2 ^ t)) d = true) := by
        intro y hy
        unfold mX3_stepsAtTheEnd_b68
        refine Pc.b (fun z ez => ?_)
        have e : z = Int32.ofNat (t + 1) := by rw [ez]; exact (Int32.ofNat_add t 1).symm
        rw [e]
        exact IH (t + 1) y (by omega) hy
      have skip : ¬ (m.testBit t = false ∧ rc M (2 ^ nb 5 M - 1 - 2 ^ t)) → ∀ d, bt x d = true ↔ ∃ t', t' < t + 1 ∧ m.testBit t' = false ∧ rc M (2 ^ nb 5 M - 1 - 2 ^ t') ∧ bt (rd M (110 + 17) (2 ^ nb 5 M - 1 - 2 ^ t')) d = true := by
        intro hno d
        rw [h d]
        constructor
        · rintro ⟨t', h1, h2⟩; exact ⟨t', by omega, h2⟩
        · rintro ⟨t', h1, h2, h3, h4⟩
          by_cases e : t' = t
          · subst e; exact absurd ⟨h2, h3⟩ hno
          · exact ⟨t', by omega, h2, h3, h4⟩
      refine Pc.b (fun x5 e5 => ?_)
      subst e5
      have c5 : (Int32.ofNat (2 ^ nb 5 M - 1 - 2 ^ t)).toNatClampNeg = 2 ^ nb 5 M - 1 - 2 ^ t := c_of (Nat.lt_of_lt_of_le fb.2.1 (by omega))
      rw [c5]
      refine Pc.i (fun c3 => Pc.k (fun _ => Pc.i (fun c4 => next x (skip (fun q => q.2 c4))) (fun c4 => Pc.k (fun _ => Pc.b (fun y ey => next y (fun d => ?_)))))) (fun c3 => next x (skip (fun q => c3 (hb0.mpr q.1))))
      rw [ey, bt_or, Bool.or_eq_true, h d]
      constructor
      · rintro (⟨t', h1, h2⟩ | h1)
        · exact ⟨t', by omega, h2⟩
        · exact ⟨t, by omega, hb0.mp c3, c4, h1⟩
      · rintro ⟨t', h1, h2, h3, h4⟩
        by_cases e : t' = t
        · subst e; exact Or.inr h4
        · exact Or.inl ⟨t', by omega, h2, h3, h4⟩
  unfold mX3_stepsAtTheEnd
  refine Pc.c (pc_allB h9) (fun r2 e2 => ?_)
  subst e2
  exact key 5000 0 0 (by omega) (fun d => by rw [bt_0]; exact ⟨fun z => absurd z (by decide), fun ⟨t, h, _⟩ => by omega⟩)
theorem pc_last13 (hN : NM n m N) : Pc (mX7_lastSteps_l13 135 5000 (0 : Int32) (0 : Int32) N) (fun q => q.1 = N ∧ ∀ d, bt q.2 d = true ↔ d < 2 * n ∧ rr N (2 ^ n - 1 - 2 ^ (d / 2)) ∧ cnb N (2 ^ n - 1 - 2 ^ (d / 2)) d = true) := by
  have hn := hN.2.1
  have hp := z_pow n hn
  have key : ∀ (fuel c : Nat) (x : Int32), c ≤ 2 * n → (∀ d, bt x d = true ↔ d < c ∧ rr N (2 ^ n - 1 - 2 ^ (d / 2)) ∧ cnb N (2 ^ n - 1 - 2 ^ (d / 2)) d = true) → Pc (mX7_lastSteps_l13 135 fuel x (Int32.ofNat c) N) (fun q => q.1 = N ∧ ∀ d, bt q.2 d = true ↔ d < 2 * n ∧ rr N (2 ^ n - 1 - 2 ^ (d / 2)) ∧ cnb N (2 ^ n - 1 - 2 ^ (d / 2)) d = true) := by
    intro fuel
    induction fuel with
    | zero => intro c x _ _ q e; cases e
    | succ fuel IH =>
      intro c x hc h
      show Pc (mX7_lastSteps_b13 135 (mX7_lastSteps_l13 135 fuel) x (Int32.ofNat c) N) _
      unfold mX7_lastSteps_b13
      refine Pc.k (fun _ => Pc.i (fun cc => ?_) (fun cc => ?_))
      · have cc := i_le.mp cc
        rw [n2_of hN, t_of (by omega)] at cc
        have : c = 2 * n := by omega
        subst this
        exact Pc.ok ⟨rfl, h⟩
      have cc := i_nle cc
      rw [n2_of hN, t_of (by omega)] at cc
      rw [pl_full hN]
      refine Pc.c (Pc.ok (P := fun r => r = Int32.ofNat (2 ^ n - 1)) rfl) (fun r9 e9 => ?_)
      subst e9
      have fb := full_bit n hn (c / 2) (by omega)
      have hx := f_ox (2 ^ n - 1) (by omega) (c / 2) (by omega)
      rw [if_pos fb.1] at hx
      rw [f_half c (by omega), hx]
      refine Pc.b (fun x3 e3 => ?_)
      subst e3
      have hlt : 2 ^ n - 1 - 2 ^ (c / 2) < 256 := Nat.lt_of_lt_of_le fb.2.1 (by omega)
      have c3 : (Int32.ofNat (2 ^ n - 1 - 2 ^ (c / 2))).toNatClampNeg = 2 ^ n - 1 - 2 ^ (c / 2) := c_of (by omega)
      rw [c3, ix16c hlt (by omega)]
      have next : ∀ y : Int32, (∀ d, bt y d = true ↔ d < c + 1 ∧ rr N (2 ^ n - 1 - 2 ^ (d / 2)) ∧ cnb N (2 ^ n - 1 - 2 ^ (d / 2)) d = true) → ∀ u v : Int32, u ||| v = y → Pc (mX7_lastSteps_b69 135 (mX7_lastSteps_l13 135 fuel) (Int32.ofNat c) u v N) (fun q => q.1 = N ∧ ∀ d, bt q.2 d = true ↔ d < 2 * n ∧ rr N (2 ^ n - 1 - 2 ^ (d / 2)) ∧ cnb N (2 ^ n - 1 - 2 ^ (d / 2)) d = true) := by
        intro y hy u v huv
        unfold mX7_lastSteps_b69
        refine Pc.b (fun x1 e1 => Pc.b (fun x2 e2 => ?_))
        have e : x2 = Int32.ofNat (c + 1) := by rw [e2]; exact (Int32.ofNat_add c 1).symm
        rw [e, e1, huv]
        exact IH (c + 1) y (by omega) hy
      have skip : ¬ (rr N (2 ^ n - 1 - 2 ^ (c / 2)) ∧ cnb N (2 ^ n - 1 - 2 ^ (c / 2)) c = true) → ∀ d, bt x d = true ↔ d < c + 1 ∧ rr N (2 ^ n - 1 - 2 ^ (d / 2)) ∧ cnb N (2 ^ n - 1 - 2 ^ (d / 2)) d = true := by
        intro hno d
        rw [h d]
        constructor
        · rintro ⟨h1, h2⟩; exact ⟨by omega, h2⟩
        · rintro ⟨h1, h2⟩
          by_cases e : d = c
          · subst e; exact absurd h2 hno
          · exact ⟨by omega, h2⟩
      have e0 : x ||| 0 = x := bt_ext (fun d _ => by rw [bt_or, bt_0, Bool.or_false])
      unfold mX7_lastSteps_b68
      refine Pc.k (fun _ => Pc.i (fun z => next x (skip (fun q => q.1 z)) x 0 e0) (fun z => Pc.k (fun _ => Pc.i (fun z2 => next x (skip (fun q => cnb_iff.mp q.2 z2)) x 0 e0) (fun z2 => ?_))))
      refine next _ (fun d => ?_) x _ rfl
      rw [bt_or, bt_sh (by omega), Bool.or_eq_true, h d, decide_eq_true_iff]
      constructor
      · rintro (⟨h1, h2⟩ | h1)
        · exact ⟨by omega, h2⟩
        · subst h1; exact ⟨by omega, z, cnb_iff.mpr z2⟩
      · rintro ⟨h1, h2⟩
        by_cases e : d = c
        · exact Or.inr e.symm
        · exact Or.inl ⟨by omega, h2⟩
  exact key 5000 0 0 (by omega) (fun d => by rw [bt_0]; exact ⟨fun z => absurd z (by decide), fun h => by omega⟩)
theorem lastSteps_RR (h : SS M N) (hI : MI N) : R2 (mX6_lastSteps 0 M) (mX7_lastSteps 135 N) (fun p q => p.2 = q.2 ∧ SS p.1 q.1) := by
  unfold mX6_lastSteps mX7_lastSteps
  refine R2.ml (pc_prep h hI) (fun M3 _ p => ?_)
  obtain ⟨hS, _, m, lc, lg, m2, em, hK, hR, elc, elg⟩ := p
  have hS : SS M3 N := hS
  have n8 := nb8 (pr_9 hS.1)
  have m256 := n_256 n8 m2
  refine R2.br (fun N1 e1 => ?_)
  have hI1 : MI N1 := by rw [e1]; exact (hI.th (v := 0)).1
  have hS1 : SS M3 N1 := by rw [e1]; exact hS.th
  have hR1 : Row (nb 5 M3) m (rd N1 136) := by rw [e1]; exact row_th hR
  refine R2.mr ((pc_layReached hI1.1 hR1.nm).and (Fr.pc (vX7_layReached (KS.rf : KS SLy N1 N1)))) (fun N5 _ p => ?_)
  obtain ⟨⟨hB, hL⟩, hk⟩ := p
  have hk : KS SLy N1 N5 := hk
  refine R2.cl (pc_atEnd hS.1 em m2) (fun r5 h5 => ?_)
  intro p q hp hq
  cases hp
  obtain ⟨q1, q2⟩ := pc_last13 hB.1 q hq
  refine ⟨bt_ext (fun d _ => ?_), by rw [q1]; exact hS1.sly hk⟩
  have hb5 := hS1.1.pb
  have e : bt r5 d = true ↔ bt q.2 d = true := by
    rw [h5 d, q2 d]
    have same : ∀ t, t < nb 5 M3 → (rc M3 (2 ^ nb 5 M3 - 1 - 2 ^ t) ↔ rr N5 (2 ^ nb 5 M3 - 1 - 2 ^ t)) := fun t ht => reach_same hK.1 n8 hb5 hB.2.1 hL (full_bit (nb 5 M3) (by omega) t ht).2.1
    constructor
    · rintro ⟨t, ht, _, hr, ho⟩
      have fb := full_bit (nb 5 M3) (by omega) t ht
      have hlt := n_256 n8 fb.2.1
      have hd : d < 2 * nb 5 M3 := by
        by_cases q : d < 2 * nb 5 M3
        · exact q
        · have hh : op M3 (2 ^ nb 5 M3 - 1 - 2 ^ t) d = false := op_hi hK.1 hlt hr (by omega)
          unfold op at hh
          rw [hh] at ho; cases ho
      have ho' : op M3 (2 ^ nb 5 M3 - 1 - 2 ^ t) d = true := ho
      have st := hK.1.step n8 hlt hr (by omega) ho'
      have et : d / 2 = t := by
        by_cases q : d / 2 = t
        · exact q
        · exfalso
          have h1 := st.2.1
          have h2 := fb.2.2
          have h3 : ((2 ^ nb 5 M3 - 1 - 2 ^ t) ||| 2 ^ t).testBit (d / 2) = true := by
            rw [h2]; exact (full_bit (nb 5 M3) (by omega) (d / 2) (by omega)).1
          rw [Nat.testBit_or, h1, Bool.false_or, Nat.testBit_two_pow] at h3
          have := of_decide_eq_true h3
          omega
      rw [et]
      exact ⟨hd, (same t ht).mp hr, by rw [← cu_op hK.1 hb5 hB.2.1 hlt hr hd]; exact ho'⟩
    · rintro ⟨hd, hr, ho⟩
      have ht : d / 2 < nb 5 M3 := by omega
      have fb := full_bit (nb 5 M3) (by omega) (d / 2) ht
      have hlt := n_256 n8 fb.2.1
      have hr' := (same _ ht).mpr hr
      have ho' : op M3 (2 ^ nb 5 M3 - 1 - 2 ^ (d / 2)) d = true := by rw [cu_op hK.1 hb5 hB.2.1 hlt hr' hd]; exact ho
      have st := hK.1.step n8 hlt hr' (by omega) ho'
      refine ⟨d / 2, ht, ?_, hr', ho'⟩
      -- a bend that is made already is in every state
      have hs := (hK.1.2.2.1 _ hlt hr').2
      cases hc : m.testBit (d / 2) with
      | false => rfl
      | true =>
        have h3 : ((2 ^ nb 5 M3 - 1 - 2 ^ (d / 2)) &&& m).testBit (d / 2) = true := by rw [hs]; exact hc
        rw [Nat.testBit_and, st.2.1] at h3
        cases h3
  cases h1 : bt r5 d with
  | true => exact (e.mp h1).symm
  | false =>
    cases h2 : bt q.2 d with
    | false => rfl
    | true => rw [e.mpr h2] at h1; cases h1
end LM
