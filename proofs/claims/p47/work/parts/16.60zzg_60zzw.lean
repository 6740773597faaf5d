/-! part 60zzg.reckon -/
section
/-! the costs up to the end, behind each step -/
section RK
variable {k k' m : Nat} {M M' M0 : Mem} {a b c : Nat} {x3 x4 x5 x6 : Int32}
theorem price_eq (h2 : rd M' k' 2 = rd M k 2) (h7 : rd M' k' 7 = rd M k 7) (h8 : rd M' k' 8 = rd M k 8) (h9 : rd M' k' 9 = rd M k 9) (p q r s : Int32) : mX1_priceBetween k' p q r s M' = mX1_priceBetween k p q r s M := by
  unfold mX1_priceBetween mX1_priceBetween_b36 mX1_priceBetween_b54 mX1_goesUp
  rw [h2, h7, h8, h9]
/-- what the costs of a state look at -/
def CE (k : Nat) (M : Mem) (k' : Nat) (M' : Mem) (a : Nat) : Prop := (rd M' k' 0 = rd M k 0 ∧ rd M' k' 2 = rd M k 2 ∧ rd M' k' 7 = rd M k 7 ∧ rd M' k' 8 = rd M k 8 ∧ rd M' k' 9 = rd M k 9) ∧ rd M' (110 + 17) a = rd M (110 + 17) a ∧ (∀ c, c < 16 → rd M' (110 + 20) (16 * a + c) = rd M (110 + 20) (16 * a + c)) ∧ (∀ c, c < 16 → op M a c = true → (a ||| 2 ^ (c / 2)) < 256 ∧ rd M' (110 + 21) (16 * (a ||| 2 ^ (c / 2)) + c) = rd M (110 + 21) (16 * (a ||| 2 ^ (c / 2)) + c) ∧ rd M' (110 + 22) (16 * (a ||| 2 ^ (c / 2)) + c) = rd M (110 + 22) (16 * (a ||| 2 ^ (c / 2)) + c))
theorem thr_eq (h : CE k M k' M' a) (ha : a < 256) (hc : c < 16) : mX3_costThrough 110 k' (Int32.ofNat a) x3 x4 (Int32.ofNat c) x6 M' = mX3_costThrough 110 k (Int32.ofNat a) x3 x4 (Int32.ofNat c) x6 M := by
  obtain ⟨⟨h0, h2, h7, h8, h9⟩, h17, h20, h21⟩ := h
  have eo : op M' a c = op M a c := by unfold op; rw [h17]
  unfold mX3_costThrough
  rw [pc_isOpen ha hc, pc_isOpen ha hc, pc_setBehind ha hc, pc_setBehind ha hc, eo]
  cases ho : op M a c with
  | false => rfl
  | true =>
    have q := h21 c hc ho
    have ei : (Int32.ofNat (a ||| 2 ^ (c / 2)) * (16 : Int32) + Int32.ofNat c).toNatClampNeg = 16 * (a ||| 2 ^ (c / 2)) + c := f_15c q.1 hc
    have ej : (Int32.ofNat a * (16 : Int32) + Int32.ofNat c).toNatClampNeg = 16 * a + c := f_15c ha hc
    have b48 : ∀ y, mX3_costThrough_b48 110 k' M' (Int32.ofNat a) x3 x4 (Int32.ofNat c) y = mX3_costThrough_b48 110 k M (Int32.ofNat a) x3 x4 (Int32.ofNat c) y := fun y => by
      unfold mX3_costThrough_b48
      rw [ej, h20 c hc, price_eq h2 h7 h8 h9]
    show ite2 _ _ (cap (some _) (fun r6 => bnd _ (fun x7 => ite2 _ (chk _ (mX3_costThrough_b48 110 k' M' _ _ _ _ _)) (chk _ (mX3_costThrough_b48 110 k' M' _ _ _ _ _))))) = ite2 _ _ (cap (some _) (fun r6 => bnd _ (fun x7 => ite2 _ (chk _ (mX3_costThrough_b48 110 k M _ _ _ _ _)) (chk _ (mX3_costThrough_b48 110 k M _ _ _ _ _)))))
    show ite2 _ _ (ite2 _ (chk _ (mX3_costThrough_b48 110 k' M' _ _ _ _ (rd M' (110 + 22) (Int32.ofNat (a ||| 2 ^ (c / 2)) * (16 : Int32) + Int32.ofNat c).toNatClampNeg))) (chk _ (mX3_costThrough_b48 110 k' M' _ _ _ _ (rd M' (110 + 21) (Int32.ofNat (a ||| 2 ^ (c / 2)) * (16 : Int32) + Int32.ofNat c).toNatClampNeg)))) = ite2 _ _ (ite2 _ (chk _ (mX3_costThrough_b48 110 k M _ _ _ _ (rd M (110 + 22) (Int32.ofNat (a ||| 2 ^ (c / 2)) * (16 : Int32) + Int32.ofNat c).toNatClampNeg))) (chk _ (mX3_costThrough_b48 110 k M _ _ _ _ (rd M (110 + 21) (Int32.ofNat (a ||| 2 ^ (c / 2)) * (16 : Int32) + Int32.ofNat c).toNatClampNeg))))
    rw [ei, q.2.1, q.2.2, b48, b48]
theorem onw_l (h : CE k M k' M' a) (ha : a < 256) : ∀ (fuel c : Nat) (x6 : Int32), c ≤ 16 → mX3_costOnward_l16 110 k' M' fuel (Int32.ofNat a) x3 x4 x5 x6 (Int32.ofNat c) = mX3_costOnward_l16 110 k M fuel (Int32.ofNat a) x3 x4 x5 x6 (Int32.ofNat c) := by
  intro fuel
  induction fuel with
  | zero => intro c x6 _; rfl
  | succ fuel IH =>
    intro c x6 hc
    show mX3_costOnward_b16 110 k' M' (mX3_costOnward_l16 110 k' M' fuel) (Int32.ofNat a) x3 x4 x5 x6 (Int32.ofNat c) = mX3_costOnward_b16 110 k M (mX3_costOnward_l16 110 k M fuel) (Int32.ofNat a) x3 x4 x5 x6 (Int32.ofNat c)
    by_cases c16 : c = 16
    · subst c16
      have q : (16 : Int32) ≤ Int32.ofNat 16 := by decide
      unfold mX3_costOnward_b16
      rw [ite_p q, ite_p q]
    · have hc16 : c < 16 := by omega
      have b88 : ∀ y, mX3_costOnward_b88 110 k' M' (mX3_costOnward_l16 110 k' M' fuel) (Int32.ofNat a) x3 x4 x5 y (Int32.ofNat c) = mX3_costOnward_b88 110 k M (mX3_costOnward_l16 110 k M fuel) (Int32.ofNat a) x3 x4 x5 y (Int32.ofNat c) := fun y => by
        have e : Int32.ofNat c + 1 = Int32.ofNat (c + 1) := (Int32.ofNat_add c 1).symm
        show mX3_costOnward_l16 110 k' M' fuel (Int32.ofNat a) x3 x4 x5 y (Int32.ofNat c + 1) = mX3_costOnward_l16 110 k M fuel (Int32.ofNat a) x3 x4 x5 y (Int32.ofNat c + 1)
        rw [e]
        exact IH (c + 1) y (by omega)
      have b71 : ∀ y z, mX3_costOnward_b71 110 k' M' (mX3_costOnward_l16 110 k' M' fuel) (Int32.ofNat a) x3 x4 x5 x6 (Int32.ofNat c) y z = mX3_costOnward_b71 110 k M (mX3_costOnward_l16 110 k M fuel) (Int32.ofNat a) x3 x4 x5 x6 (Int32.ofNat c) y z := fun y z => by
        unfold mX3_costOnward_b71
        rw [b88, b88]
      unfold mX3_costOnward_b16 mX3_costOnward_b66 mX3_costOnward_b70
      rw [thr_eq h ha hc16]
      congr 1
      congr 1
      funext r7
      rw [b71, b71]
theorem onw_eq (h : CE k M k' M' a) (ha : a < 256) : mX3_costOnward 110 k' (Int32.ofNat a) x3 x4 x5 M' = mX3_costOnward 110 k (Int32.ofNat a) x3 x4 x5 M := by
  have h0 := h.1.1
  unfold mX3_costOnward mX1_allBends mX1_bendCount
  rw [h0]
  congr 1
  funext r2
  congr 1
  exact onw_l h ha 5000 0 (-1) (by omega)
theorem small_eq (h : CE k M k' M' a) (ha : a < 256) : mX3_smallestStep 110 k' (Int32.ofNat a) x3 x4 x5 M' = mX3_smallestStep 110 k (Int32.ofNat a) x3 x4 x5 M := by
  have key : ∀ (fuel c : Nat), c ≤ 16 → mX3_smallestStep_l3 110 k' M' fuel (Int32.ofNat a) x3 x4 x5 (Int32.ofNat c) = mX3_smallestStep_l3 110 k M fuel (Int32.ofNat a) x3 x4 x5 (Int32.ofNat c) := by
    intro fuel
    induction fuel with
    | zero => intro c _; rfl
    | succ fuel IH =>
      intro c hc
      show mX3_smallestStep_b3 110 k' M' (mX3_smallestStep_l3 110 k' M' fuel) (Int32.ofNat a) x3 x4 x5 (Int32.ofNat c) = mX3_smallestStep_b3 110 k M (mX3_smallestStep_l3 110 k M fuel) (Int32.ofNat a) x3 x4 x5 (Int32.ofNat c)
      by_cases c16 : c = 16
      · subst c16; rfl
      · have e : Int32.ofNat c + 1 = Int32.ofNat (c + 1) := (Int32.ofNat_add c 1).symm
        unfold mX3_smallestStep_b3
        rw [thr_eq h ha (by omega)]
        congr 1
        congr 1
        funext r3
        congr 1
        show mX3_smallestStep_l3 110 k' M' fuel (Int32.ofNat a) x3 x4 x5 (Int32.ofNat c + 1) = mX3_smallestStep_l3 110 k M fuel (Int32.ofNat a) x3 x4 x5 (Int32.ofNat c + 1)
        rw [e]
        exact IH (c + 1) (by omega)
  exact key 5000 0 (by omega)
theorem CE.rf (h : ∀ c, c < 16 → op M a c = true → (a ||| 2 ^ (c / 2)) < 256) : CE k M k M a := ⟨⟨rfl, rfl, rfl, rfl, rfl⟩, rfl, fun _ _ => rfl, fun c hc ho => ⟨h c hc ho, rfl, rfl⟩⟩
/-- the costs behind a step -/
def LSp (k : Nat) (M : Mem) (b c : Nat) : Prop := mX3_costOnward 110 k (Int32.ofNat (b ||| 2 ^ (c / 2))) (Int32.ofNat c) (rd M (110 + 20) (16 * b + c)) 1 M = some (rd M (110 + 21) (16 * (b ||| 2 ^ (c / 2)) + c)) ∧ mX3_costOnward 110 k (Int32.ofNat (b ||| 2 ^ (c / 2))) (Int32.ofNat c) (rd M (110 + 20) (16 * b + c)) 0 M = some (rd M (110 + 22) (16 * (b ||| 2 ^ (c / 2)) + c))
def SCs (c j : Nat) : Prop := c = 131 ∨ c = 132 ∨ (c = 110 ∧ j ≤ 1)
theorem LSp.of (hL : LI k m M 256) (n8 : nb k M ≤ 8) (hb : b < 256) (hr : rc M b) (hc : c < 16) (ho : op M b c = true) (h : LSp k M b c) (hk : KS SCs M M') (k8 : k + 8 ≤ 110)
    (e : ∀ a, (b ||| 2 ^ (c / 2)) ≤ a → ∀ c', c' < 16 → (a = (b ||| 2 ^ (c / 2)) → c' = c) → rd M' (110 + 21) (16 * a + c') = rd M (110 + 21) (16 * a + c') ∧ rd M' (110 + 22) (16 * a + c') = rd M (110 + 22) (16 * a + c')) : LSp k M' b c := by
  have st := hL.step n8 hb hr hc ho
  have fr : ∀ c j, ¬ SCs c j → rd M' c j = rd M c j := hk
  have ce : CE k M k M' (b ||| 2 ^ (c / 2)) := by
    refine ⟨⟨fr _ _ ?_, fr _ _ ?_, fr _ _ ?_, fr _ _ ?_, fr _ _ ?_⟩, fr _ _ ?_, fun c' _ => fr _ _ ?_, fun c' hc' ho' => ?_⟩ <;> (try (unfold SCs; omega))
    have st2 := hL.step n8 st.2.2.2.2.1 st.2.2.2.2.2 hc' ho'
    have q := e ((b ||| 2 ^ (c / 2)) ||| 2 ^ (c' / 2)) (by omega) c' hc' (fun z => by omega)
    exact ⟨st2.2.2.2.2.1, q.1, q.2⟩
  have e20 : rd M' (110 + 20) (16 * b + c) = rd M (110 + 20) (16 * b + c) := fr _ _ (by unfold SCs; omega)
  have q := e _ (Nat.le_refl _) c hc (fun _ => rfl)
  unfold LSp
  rw [e20, onw_eq ce st.2.2.2.2.1, onw_eq ce st.2.2.2.2.1, q.1, q.2]
  exact h
theorem f_ox : ∀ a, a < 256 → ∀ t, t < 8 → (Int32.ofNat a &&& (((1 : Int32) <<< (Int32.ofNat t &&& 31)) ^^^ (-1 : Int32))) = Int32.ofNat (if a.testBit t then a - 2 ^ t else a) := by decide +kernel
theorem n_off : ∀ a, a < 256 → ∀ t, t < 8 → a.testBit t = true → (a - 2 ^ t) ||| 2 ^ t = a ∧ (a - 2 ^ t).testBit t = false := by decide +kernel
theorem n_off2 : ∀ b, b < 256 → ∀ t, t < 8 → b.testBit t = false → (b ||| 2 ^ t) - 2 ^ t = b ∧ (b ||| 2 ^ t).testBit t = true := by decide +kernel
end RK
end
/-! part 60zzh.reckon2 -/
section
/-! the loops that reckon the costs -/
section RL
variable {k m : Nat} {M M' M0 : Mem} {a b c : Nat} {P : Mem × Unit → Prop}
/-- all steps that lead to a set from `a` on have their costs; those to the set `a` itself as far as `l` -/
def LSa (k : Nat) (M0 M : Mem) (a l : Nat) : Prop := ∀ b c, b < 256 → c < 16 → rc M0 b → op M0 b c = true → (a < (b ||| 2 ^ (c / 2)) ∨ (a = (b ||| 2 ^ (c / 2)) ∧ c < l)) → LSp k M b c
theorem LI.ks (h : LI k m M 256) (k8 : k + 8 ≤ 110) (hk : KS SCs M M') : LI k m M' 256 := by
  obtain ⟨h1, h2, h3, h4, h5⟩ := h
  have fr : ∀ c j, ¬ SCs c j → rd M' c j = rd M c j := hk
  have hb : BL k M k M' := BL.ks hk (fun c j h1 h2 z => by unfold SCs at z; omega)
  have en := hb.bn
  have e17 : ∀ j, rd M' (110 + 17) j = rd M (110 + 17) j := fun j => fr _ _ (by unfold SCs; omega)
  have e18 : ∀ j, rd M' (110 + 18) j = rd M (110 + 18) j := fun j => fr _ _ (by unfold SCs; omega)
  have eo : op M' = op M := by funext a c; unfold op; rw [e17]
  have er : rc M' = rc M := by funext a; unfold rc; rw [e18]
  refine ⟨h1.bl hb e17 (fun _ => fr _ _ (by unfold SCs; omega)), ?_, ?_, ?_, ?_⟩
  · rw [er]; exact h2
  · rw [er, en]; exact h3
  · intro b'; rw [er, eo, e17]; exact h4 b'
  · rw [er, eo]; exact h5
theorem rk_in (hL : LI k m M0 256) (n8 : nb k M0 ≤ 8) (k8 : k + 8 ≤ 110) (ha : a < 256) : ∀ (fuel l : Nat) (M : Mem), l ≤ 16 → KS SCs M0 M → LSa k M0 M a l → Pc (mX3_reckonCostsBehind_l2 110 k fuel (Int32.ofNat a) (Int32.ofNat l) M) (fun q => KS SCs M0 q.1 ∧ LSa k M0 q.1 a 16) := by
  intro fuel
  induction fuel with
  | zero => intro l M _ _ _ q e; cases e
  | succ fuel IH =>
    intro l M hl hk h
    have fr : ∀ c j, ¬ SCs c j → rd M c j = rd M0 c j := hk
    have hLM : LI k m M 256 := hL.ks k8 hk
    have eo : ∀ b c, op M b c = op M0 b c := fun b c => by unfold op; rw [fr _ _ (by unfold SCs; omega)]
    have er : ∀ b, rc M b ↔ rc M0 b := fun b => by unfold rc; rw [fr _ _ (by unfold SCs; omega)]
    show Pc (mX3_reckonCostsBehind_b2 110 k (mX3_reckonCostsBehind_l2 110 k fuel) (Int32.ofNat a) (Int32.ofNat l) M) _
    unfold mX3_reckonCostsBehind_b2
    have tl : (Int32.ofNat l).toInt = (l : Int) := t_of (by omega)
    have n16 : ((16 : Int32)).toInt = 16 := rfl
    refine Pc.i (fun c1 => ?_) (fun c1 => ?_)
    · have c1 := i_le.mp c1
      have e : l = 16 := by omega
      subst e
      exact Pc.ok ⟨hk, h⟩
    have c1 := i_nle c1
    have l16 : l < 16 := by omega
    have next : ∀ M', KS SCs M0 M' → LSa k M0 M' a (l + 1) → Pc (mX3_reckonCostsBehind_b101 110 k (mX3_reckonCostsBehind_l2 110 k fuel) (Int32.ofNat a) (Int32.ofNat l) M') (fun q => KS SCs M0 q.1 ∧ LSa k M0 q.1 a 16) := by
      intro M' h1 h2
      unfold mX3_reckonCostsBehind_b101
      refine Pc.b (fun x ex => ?_)
      have e : x = Int32.ofNat (l + 1) := by rw [ex]; exact (Int32.ofNat_add l 1).symm
      rw [e]
      exact IH (l + 1) M' (by omega) h1 h2
    -- no step of this code leads here
    have skip : (∀ b, b < 256 → rc M0 b → op M0 b l = true → ¬ a = (b ||| 2 ^ (l / 2))) → LSa k M0 M a (l + 1) := fun q b c hb hc hr ho hq => by
      rcases hq with hq | ⟨hq, hcl⟩
      · exact h b c hb hc hr ho (Or.inl hq)
      · by_cases e : c = l
        · subst e; exact absurd hq (q b hb hr ho)
        · exact h b c hb hc hr ho (Or.inr ⟨hq, by omega⟩)
    rw [f_shr1c l l16, f_ox a ha (l / 2) (by omega)]
    refine Pc.b (fun x4 e4 => ?_)
    subst e4
    by_cases tb : a.testBit (l / 2) = true
    rotate_left
    · rw [if_neg tb]
      refine Pc.i (fun _ => next M hk (skip (fun b hb hr ho e => tb ?_))) (fun z => absurd rfl z)
      have st := hL.step n8 hb hr l16 ho
      rw [e]; exact (n_off2 b hb (l / 2) (by omega) st.2.1).2
    rw [if_pos tb]
    have no := n_off a ha (l / 2) (by omega) tb
    obtain ⟨bb, ebb⟩ : ∃ bb, bb = a - 2 ^ (l / 2) := ⟨_, rfl⟩
    rw [← ebb] at no ⊢
    have hbb : bb < 256 := Nat.lt_of_le_of_lt (by rw [ebb]; exact Nat.sub_le _ _) ha
    have hbb2 : bb ≠ a := fun e => by rw [e] at no; rw [tb] at no; exact absurd no.2 (by decide)
    have uniq : ∀ b, b < 256 → rc M0 b → op M0 b l = true → a = (b ||| 2 ^ (l / 2)) → b = bb := fun b hb hr ho e => by
      have st := hL.step n8 hb hr l16 ho
      have q := (n_off2 b hb (l / 2) (by omega) st.2.1).1
      rw [← e] at q
      exact q.symm.trans ebb.symm
    have cb : (Int32.ofNat bb).toNatClampNeg = bb := c_of (by omega)
    rw [cb]
    refine Pc.i (fun z => absurd (o_inj (by omega) (by omega) z) hbb2) (fun _ => Pc.k (fun _ => Pc.i (fun c2 => next M hk (skip (fun b hb hr ho e => ?_))) (fun c2 => ?_)))
    · have e2 := uniq b hb hr ho e
      subst e2
      exact absurd c2 ((er b).mpr hr)
    have hr : rc M0 bb := (er bb).mp c2
    rw [pc_isOpen hbb l16]
    refine Pc.c (Pc.ok (P := fun r => r = if op M bb l = true then 1 else 0) rfl) (fun r8 e8 => Pc.i (fun c3 => next M hk (skip (fun b hb hr' ho e => ?_))) (fun c3 => ?_))
    · have e2 := uniq b hb hr' ho e
      subst e2
      rw [if_pos (by rw [eo]; exact ho)] at e8
      rw [e8] at c3; exact absurd c3 (by decide)
    have ho : op M0 bb l = true := by
      by_cases q : op M bb l = true
      · rw [← eo]; exact q
      · rw [if_neg q] at e8; exact absurd e8 c3
    have i1 : (Int32.ofNat bb * (16 : Int32) + Int32.ofNat l).toNatClampNeg = 16 * bb + l := f_15c hbb l16
    have i2 : (Int32.ofNat a * (16 : Int32) + Int32.ofNat l).toNatClampNeg = 16 * a + l := f_15c ha l16
    rw [i1, i2]
    refine Pc.k (fun _ => Pc.b (fun x5 e5 => Pc.c (Pc.self _) (fun r14 e14 => Pc.k (fun _ => Pc.b (fun M18 e18 => Pc.c (Pc.self _) (fun r20 e20 => Pc.k (fun _ => Pc.b (fun M24 e24 => ?_))))))))
    subst e5
    subst e18
    subst e24
    have st := hL.step n8 hbb hr l16 ho
    have kM : KS SCs M (wr (wr M (110 + 21) (16 * a + l) r14) (110 + 22) (16 * a + l) r20) := (KS.rf.wr (Or.inl rfl)).wr (Or.inr (Or.inl rfl))
    have eq1 : ∀ a' c', ¬ (a' = a ∧ c' = l) → c' < 16 → rd (wr (wr M (110 + 21) (16 * a + l) r14) (110 + 22) (16 * a + l) r20) (110 + 21) (16 * a' + c') = rd M (110 + 21) (16 * a' + c') ∧ rd (wr (wr M (110 + 21) (16 * a + l) r14) (110 + 22) (16 * a + l) r20) (110 + 22) (16 * a' + c') = rd M (110 + 22) (16 * a' + c') := fun a' c' hne hc' => by
      constructor
      · rw [rd_wk (by decide), rd_wj (by omega)]
      · rw [rd_wj (by omega), rd_wk (by decide)]
    have stp : ∀ c', c' < 16 → op M a c' = true → (a ||| 2 ^ (c' / 2)) < 256 ∧ a < (a ||| 2 ^ (c' / 2)) := fun c' hc' ho' => by
      have ra : rc M a := by rw [er, ← no.1]; exact st.2.2.2.2.2
      have q := hLM.step (by have := (BL.ks (k := k) hk (fun c j h1 h2 z => by unfold SCs at z; omega)).bn; omega) ha ra hc' ho'
      exact ⟨q.2.2.2.2.1, q.2.2.1⟩
    have ceA : ∀ (v : Int32), CE k M k (wr M (110 + 21) (16 * a + l) v) a := fun v => by
      refine ⟨⟨rd_wk (by omega), rd_wk (by omega), rd_wk (by omega), rd_wk (by omega), rd_wk (by omega)⟩, rd_wk (by decide), fun _ _ => rd_wk (by decide), fun c' hc' ho' => ?_⟩
      have q := stp c' hc' ho'
      exact ⟨q.1, rd_wj (by omega), rd_wk (by decide)⟩
    have ceB : CE k M k (wr (wr M (110 + 21) (16 * a + l) r14) (110 + 22) (16 * a + l) r20) a := by
      refine ⟨⟨kM _ _ ?_, kM _ _ ?_, kM _ _ ?_, kM _ _ ?_, kM _ _ ?_⟩, kM _ _ ?_, fun _ _ => kM _ _ ?_, fun c' hc' ho' => ?_⟩ <;> (try (unfold SCs; omega))
      have q := stp c' hc' ho'
      exact ⟨q.1, eq1 _ _ (by omega) hc'⟩
    refine next _ (hk.trans kM) (fun b c hb hc hrb hob hq => ?_)
    by_cases e : a = (b ||| 2 ^ (c / 2)) ∧ c = l
    · obtain ⟨e1, e2⟩ := e
      subst e2
      have e3 := uniq b hb hrb hob e1
      subst e3
      unfold LSp
      rw [← e1]
      rw [onw_eq ceB ha, onw_eq ceB ha, kM (110 + 20) _ (by unfold SCs; omega)]
      constructor
      · rw [rd_wk (by decide), rd_we]; exact e14
      · rw [rd_we, ← onw_eq (ceA r14) ha]; exact e20
    · have hq2 : a < (b ||| 2 ^ (c / 2)) ∨ (a = (b ||| 2 ^ (c / 2)) ∧ c < l) := by
        rcases hq with hq | ⟨hq, hcl⟩
        · exact Or.inl hq
        · exact Or.inr ⟨hq, by
            have : c ≠ l := fun z => e ⟨hq, z⟩
            omega⟩
      have en : nb k M = nb k M0 := (BL.ks (k := k) hk (fun c j h1 h2 z => by unfold SCs at z; omega)).bn
      refine (h b c hb hc hrb hob hq2).of hLM (by omega) hb ((er b).mpr hrb) hc (by rw [eo]; exact hob) kM k8 (fun a' ha' c' hc' hcc => eq1 a' c' (fun z => ?_) hc')
      obtain ⟨z1, z2⟩ := z
      subst z1
      rcases hq2 with q | ⟨q, q2⟩
      · omega
      · have := hcc q; omega
def LSd (k : Nat) (M0 M : Mem) (a : Nat) : Prop := ∀ b c, b < 256 → c < 16 → rc M0 b → op M0 b c = true → a ≤ (b ||| 2 ^ (c / 2)) → LSp k M b c
theorem rk_out (hL : LI k m M0 256) (n8 : nb k M0 ≤ 8) (k8 : k + 8 ≤ 110) (hm : rd M0 k 13 = Int32.ofNat m) (m256 : m < 256) {lc lg : Int32} (elc : mX1_lastCode k M0 = some lc) (elg : mX1_lastGauge k M0 = some lg) : ∀ (fuel a : Nat) (x : Int32) (M : Mem), x.toInt = (a : Int) - 1 → a ≤ 256 → KS SCs M0 M → LSd k M0 M a →
    Pc (mX3_reckonCosts_l4 110 k fuel x M) (fun q => KS SCs M0 q.1 ∧ LSd k M0 q.1 0 ∧ mX3_costOnward 110 k (Int32.ofNat m) lc lg 1 q.1 = some (rd q.1 110 0) ∧ mX3_costOnward 110 k (Int32.ofNat m) lc lg 0 q.1 = some (rd q.1 110 1)) := by
  intro fuel
  induction fuel with
  | zero => intro a x M _ _ _ _ q e; cases e
  | succ fuel IH =>
    intro a x M hx ha hk h
    have fr : ∀ c j, ¬ SCs c j → rd M c j = rd M0 c j := hk
    have hLM : LI k m M 256 := hL.ks k8 hk
    have en : nb k M = nb k M0 := (BL.ks (k := k) hk (fun c j h1 h2 z => by unfold SCs at z; omega)).bn
    have er : ∀ b, rc M b ↔ rc M0 b := fun b => by unfold rc; rw [fr _ _ (by unfold SCs; omega)]
    have em : rd M k 13 = Int32.ofNat m := (fr _ _ (by unfold SCs; omega)).trans hm
    have hG : GL k M0 k M := GL.ks hk (fun c j h1 h2 z => by unfold SCs at z; omega)
    have tm : (Int32.ofNat m).toInt = (m : Int) := t_of (by omega)
    show Pc (mX3_reckonCosts_b4 110 k (mX3_reckonCosts_l4 110 k fuel) x M) _
    unfold mX3_reckonCosts_b4
    rw [em]
    refine Pc.i (fun c => ?_) (fun c => ?_)
    · have c := i_le.mp c
      rw [hG.2.1, elc, hG.2.2.1, elg]
      refine Pc.c (Pc.ok (P := fun r => r = lc) rfl) (fun r3 e3 => Pc.c (Pc.ok (P := fun r => r = lg) rfl) (fun r6 e6 => ?_))
      subst e3
      subst e6
      refine Pc.c (Pc.self _) (fun r9 e9 => Pc.b (fun M11 e11 => ?_))
      have k11 : KS SCs M M11 := by rw [e11]; exact KS.rf.wr (Or.inr (Or.inr ⟨rfl, by omega⟩))
      have G11 : GL k M0 k M11 := hG.tr (GL.ks k11 (fun c j h1 h2 z => by unfold SCs at z; omega))
      rw [G11.2.1, elc, G11.2.2.1, elg, G11.1, hm]
      refine Pc.c (Pc.ok (P := fun r => r = r3) rfl) (fun r14 e14 => Pc.c (Pc.ok (P := fun r => r = r6) rfl) (fun r17 e17 => ?_))
      subst e14
      subst e17
      refine Pc.c (Pc.self _) (fun r20 e20 => Pc.b (fun M22 e22 => Pc.ok ?_))
      have k22 : KS (fun c j => c = 110 ∧ j ≤ 1) M M22 := by rw [e22, e11]; exact (KS.rf.wr ⟨rfl, by omega⟩).wr ⟨rfl, by omega⟩
      have k22' : KS SCs M M22 := k22.mono (fun c j h => Or.inr (Or.inr h))
      have ce : ∀ b, b < 256 → rc M b → ∀ M', KS (fun c j => c = 110 ∧ j ≤ 1) M M' → CE k M k M' b := fun b hb hr M' hk' => by
        refine ⟨⟨hk' _ _ (by omega), hk' _ _ (by omega), hk' _ _ (by omega), hk' _ _ (by omega), hk' _ _ (by omega)⟩, hk' _ _ (by omega), fun _ _ => hk' _ _ (by omega), fun c' hc' ho' => ?_⟩
        exact ⟨(hLM.step (by omega) hb hr hc' ho').2.2.2.2.1, hk' _ _ (by omega), hk' _ _ (by omega)⟩
      have cm : ∀ M', KS (fun c j => c = 110 ∧ j ≤ 1) M M' → CE k M k M' m := ce m m256 hLM.2.1
      have k11' : KS (fun c j => c = 110 ∧ j ≤ 1) M M11 := by rw [e11]; exact KS.rf.wr ⟨rfl, by omega⟩
      refine ⟨hk.trans k22', fun b c hb hc hr ho _ => ?_, ?_, ?_⟩
      · have hge : m ≤ b := by
          have := (hL.2.2.1 b hb hr).2
          rw [← this]; exact Nat.and_le_left
        have st := hL.step n8 hb hr hc ho
        have q := h b c hb hc hr ho (by omega)
        refine q.of hLM (by omega) hb ((er b).mpr hr) hc (by unfold op; rw [fr _ _ (by unfold SCs; omega)]; exact ho) k22' k8 (fun a' _ c' _ _ => ⟨k22 _ _ (by omega), k22 _ _ (by omega)⟩)
      · rw [onw_eq (cm M22 k22) m256, e22, rd_wj (by decide), e11, rd_we]; exact e9
      · rw [onw_eq (cm M22 k22) m256, ← onw_eq (cm M11 k11') m256, e22, rd_we]; exact e20
    · have c := i_nle c
      obtain ⟨b, rfl⟩ : ∃ b, a = b + 1 := ⟨a - 1, by omega⟩
      have ex : x = Int32.ofNat b := by
        rw [o_of (x := x) (by omega)]; congr 1; omega
      subst ex
      have cb : (Int32.ofNat b).toNatClampNeg = b := c_of (by omega)
      rw [cb]
      have next : ∀ M', KS SCs M0 M' → LSd k M0 M' b → Pc (mX3_reckonCosts_b27 110 k (mX3_reckonCosts_l4 110 k fuel) (Int32.ofNat b) M') (fun q => KS SCs M0 q.1 ∧ LSd k M0 q.1 0 ∧ mX3_costOnward 110 k (Int32.ofNat m) lc lg 1 q.1 = some (rd q.1 110 0) ∧ mX3_costOnward 110 k (Int32.ofNat m) lc lg 0 q.1 = some (rd q.1 110 1)) := by
        intro M' h1 h2
        unfold mX3_reckonCosts_b27
        refine Pc.b (fun x ex => ?_)
        refine IH b x M' ?_ (by omega) h1 h2
        have nm1 : ((-1 : Int32)).toInt = -1 := rfl
        have tb : (Int32.ofNat b).toInt = (b : Int) := t_of (by omega)
        rw [ex, i_add (by omega) (by omega)]; omega
      refine Pc.k (fun _ => Pc.i (fun c2 => next M hk (fun b' c' hb' hc' hr' ho' hq => ?_)) (fun c2 => ?_))
      · by_cases e : b = (b' ||| 2 ^ (c' / 2))
        · have st := hL.step n8 hb' hr' hc' ho'
          rw [← e] at st
          exact absurd c2 ((er b).mpr st.2.2.2.2.2)
        · exact h b' c' hb' hc' hr' ho' (by omega)
      · unfold mX3_reckonCostsBehind
        refine Pc.m (rk_in hL n8 k8 (by omega) 5000 0 M (by omega) hk (fun b' c' hb' hc' hr' ho' hq => ?_)) (fun M29 _ p => next M29 p.1 (fun b' c' hb' hc' hr' ho' hq => p.2 b' c' hb' hc' hr' ho' ?_))
        · rcases hq with hq | ⟨_, hq⟩
          · exact h b' c' hb' hc' hr' ho' (by omega)
          · omega
        · by_cases e : b = (b' ||| 2 ^ (c' / 2))
          · exact Or.inr ⟨e, hc'⟩
          · exact Or.inl (by omega)
theorem pc_reckon (hL : LI k m M 256) (h9 : (rd M k 0).toInt ≤ 9) (k8 : k + 8 ≤ 110) (hm : rd M k 13 = Int32.ofNat m) (m256 : m < 256) {lc lg : Int32} (elc : mX1_lastCode k M = some lc) (elg : mX1_lastGauge k M = some lg) : Pc (mX3_reckonCosts 110 k M) (fun q => KS SCs M q.1 ∧ LSd k M q.1 0 ∧ mX3_costOnward 110 k (Int32.ofNat m) lc lg 1 q.1 = some (rd q.1 110 0) ∧ mX3_costOnward 110 k (Int32.ofNat m) lc lg 0 q.1 = some (rd q.1 110 1)) := by
  unfold mX3_reckonCosts
  refine rk_out hL (nb8 h9) k8 hm m256 elc elg 5000 256 255 M (by decide) (by omega) KS.rf (fun b c hb hc hr ho hq => ?_)
  have st := hL.step (nb8 h9) hb hr hc ho
  omega
end RL
end
/-! part 60zzi.plan -/
section
/-! the class chooses the plan -/
def Ch (k : Nat) (T M : Mem) : Nat → Nat → Nat → Int32 → Int32 → Int32 → Prop
  | 0, p, _, _, _, _ => rd M 110 3 = Int32.ofNat p
  | j + 1, p, a, l, g, r => (r = -1 ∧ rd M 110 3 = Int32.ofNat p) ∨ (¬ r = -1 ∧ ((mX3_smallestStep 110 k (Int32.ofNat a) l g r T = some (-1) ∧ rd M 110 3 = Int32.ofNat p) ∨ ∃ c, c < 16 ∧ mX3_smallestStep 110 k (Int32.ofNat a) l g r T = some (Int32.ofNat c) ∧ rd M (110 + 1) p = Int32.ofNat c ∧ op T a c = true ∧ Ch k T M j (p + 1) (a ||| 2 ^ (c / 2)) (Int32.ofNat c) (rd T (110 + 20) (16 * a + c)) (rd T (110 + 21) (16 * (a ||| 2 ^ (c / 2)) + c))))
section CP
variable {k k' m : Nat} {M M' M0 T T' : Mem} {a b c : Nat} {l g r : Int32}
theorem thr_op {x6 : Int32} (ha : a < 256) (hc : c < 16) (h : mX3_costThrough 110 k (Int32.ofNat a) l g (Int32.ofNat c) x6 T = some r) (hr : ¬ r = -1) : op T a c = true := by
  unfold mX3_costThrough at h
  rw [pc_isOpen ha hc] at h
  cases ho : op T a c with
  | true => rfl
  | false =>
    rw [ho] at h
    exact absurd (Option.some.inj h).symm hr
theorem pc_small (ha : a < 256) (hr : ¬ r = -1) : Pc (mX3_smallestStep 110 k (Int32.ofNat a) l g r T) (fun s => (s = -1 ∧ ∀ c, c < 16 → ∃ v, mX3_costThrough 110 k (Int32.ofNat a) l g (Int32.ofNat c) 1 T = some v ∧ ¬ v = r) ∨ ∃ c, c < 16 ∧ s = Int32.ofNat c ∧ op T a c = true ∧ mX3_costThrough 110 k (Int32.ofNat a) l g (Int32.ofNat c) 1 T = some r ∧ ∀ c', c' < c → ∃ v, mX3_costThrough 110 k (Int32.ofNat a) l g (Int32.ofNat c') 1 T = some v ∧ ¬ v = r) := by
  have key : ∀ (fuel c : Nat), c ≤ 16 → (∀ c', c' < c → ∃ v, mX3_costThrough 110 k (Int32.ofNat a) l g (Int32.ofNat c') 1 T = some v ∧ ¬ v = r) → Pc (mX3_smallestStep_l3 110 k T fuel (Int32.ofNat a) l g r (Int32.ofNat c)) (fun s => (s = -1 ∧ ∀ c, c < 16 → ∃ v, mX3_costThrough 110 k (Int32.ofNat a) l g (Int32.ofNat c) 1 T = some v ∧ ¬ v = r) ∨ ∃ c, c < 16 ∧ s = Int32.ofNat c ∧ op T a c = true ∧ mX3_costThrough 110 k (Int32.ofNat a) l g (Int32.ofNat c) 1 T = some r ∧ ∀ c', c' < c → ∃ v, mX3_costThrough 110 k (Int32.ofNat a) l g (Int32.ofNat c') 1 T = some v ∧ ¬ v = r) := by
    intro fuel
    induction fuel with
    | zero => intro c _ _ q e; cases e
    | succ fuel IH =>
      intro c hc hp
      show Pc (mX3_smallestStep_b3 110 k T (mX3_smallestStep_l3 110 k T fuel) (Int32.ofNat a) l g r (Int32.ofNat c)) _
      unfold mX3_smallestStep_b3
      have tc : (Int32.ofNat c).toInt = (c : Int) := t_of (by omega)
      have n16 : ((16 : Int32)).toInt = 16 := rfl
      refine Pc.i (fun c1 => Pc.ok (Or.inl ⟨rfl, ?_⟩)) (fun c1 => ?_)
      · have c1 := i_le.mp c1
        have e : c = 16 := by omega
        subst e; exact hp
      · have c1 := i_nle c1
        refine Pc.c (Pc.self _) (fun r3 e3 => Pc.i (fun c2 => Pc.ok (Or.inr ?_)) (fun c2 => Pc.b (fun x ex => ?_)))
        · subst c2
          exact ⟨c, by omega, rfl, thr_op ha (by omega) e3 hr, e3, hp⟩
        · have e : x = Int32.ofNat (c + 1) := by rw [ex]; exact (Int32.ofNat_add c 1).symm
          rw [e]
          refine IH (c + 1) (by omega) (fun c' hc' => ?_)
          by_cases q : c' = c
          · subst q; exact ⟨r3, e3, c2⟩
          · exact hp c' (by omega)
  exact key 5000 0 (by omega) (fun c' h => by omega)
def SCh (c j : Nat) : Prop := c = 111 ∨ (c = 110 ∧ j = 3)
theorem KS.ce {S : Nat → Nat → Prop} (hL : LI k m T 256) (n8 : nb k T ≤ 8) (hk : KS S T T') (hs : ∀ c j, S c j → ¬ (k ≤ c ∧ c < k + 8) ∧ c ≠ 127 ∧ c ≠ 130 ∧ c ≠ 131 ∧ c ≠ 132) (ha : a < 256) (hr : rc T a) : CE k T k T' a := by
  have fr : ∀ c j, ((k ≤ c ∧ c < k + 8) ∨ c = 127 ∨ c = 130 ∨ c = 131 ∨ c = 132) → rd T' c j = rd T c j := fun c j h => hk c j (fun z => by have := hs c j z; omega)
  refine ⟨⟨fr _ _ (by omega), fr _ _ (by omega), fr _ _ (by omega), fr _ _ (by omega), fr _ _ (by omega)⟩, fr _ _ (by omega), fun _ _ => fr _ _ (by omega), fun c hc ho => ⟨(hL.step n8 ha hr hc ho).2.2.2.2.1, fr _ _ (by omega), fr _ _ (by omega)⟩⟩
theorem ch_l (hL : LI k m T 256) (n8 : nb k T ≤ 8) (k8 : k + 8 ≤ 110) : ∀ (fuel p a : Nat) (l g r : Int32) (M : Mem), p ≤ 8 → a < 256 → rc T a → KS SCh T M → rd M 110 3 = Int32.ofNat p → Pc (mX3_choosePlan_l40 110 k fuel (Int32.ofNat a) l g r (Int32.ofNat p) M) (fun q => KS (fun c j => (c = 111 ∧ p ≤ j) ∨ (c = 110 ∧ j = 3)) M q.1 ∧ Ch k T q.1 (8 - p) p a l g r) := by
  intro fuel
  induction fuel with
  | zero => intro p a l g r M _ _ _ _ _ q e; cases e
  | succ fuel IH =>
    intro p a l g r M hp ha hra hk h3
    have hsub : ∀ c j, SCh c j → ¬ (k ≤ c ∧ c < k + 8) ∧ c ≠ 127 ∧ c ≠ 130 ∧ c ≠ 131 ∧ c ≠ 132 := fun c j z => by unfold SCh at z; omega
    have ce := KS.ce hL n8 hk hsub ha hra
    show Pc (mX3_choosePlan_b40 110 k (mX3_choosePlan_l40 110 k fuel) (Int32.ofNat a) l g r (Int32.ofNat p) M) _
    unfold mX3_choosePlan_b40
    have tp : (Int32.ofNat p).toInt = (p : Int) := t_of (by omega)
    have n8' : ((8 : Int32)).toInt = 8 := rfl
    refine Pc.i (fun c1 => Pc.ok ⟨KS.rf, ?_⟩) (fun c1 => ?_)
    · have c1 := i_le.mp c1
      have e : p = 8 := by omega
      subst e; exact h3
    have c1 := i_nle c1
    obtain ⟨j, ej⟩ : ∃ j, 8 - p = j + 1 := ⟨7 - p, by omega⟩
    rw [ej]
    refine Pc.i (fun c2 => Pc.ok ⟨KS.rf, Or.inl ⟨c2, h3⟩⟩) (fun c2 => ?_)
    refine Pc.c ((Pc.self _).and (pc_small (k := k) (T := M) (l := l) (g := g) ha c2)) (fun r15 e15 => ?_)
    obtain ⟨e15, q15⟩ := e15
    rw [small_eq ce ha] at e15
    refine Pc.i (fun c3 => ?_) (fun c3 => ?_)
    · -- nothing fits: no more
      subst c3
      have stay : ∀ (fuel p' : Nat), p' ≤ 8 → Pc (mX3_choosePlan_l40 110 k fuel (Int32.ofNat a) l g r (Int32.ofNat p') M) (fun q => q.1 = M) := by
        intro fuel
        induction fuel with
        | zero => intro p' _ q e; cases e
        | succ fuel IH2 =>
          intro p' hp'
          show Pc (mX3_choosePlan_b40 110 k (mX3_choosePlan_l40 110 k fuel) (Int32.ofNat a) l g r (Int32.ofNat p') M) _
          unfold mX3_choosePlan_b40
          have tp' : (Int32.ofNat p').toInt = (p' : Int) := t_of (by omega)
          refine Pc.i (fun _ => Pc.ok rfl) (fun c5 => Pc.i (fun _ => Pc.ok rfl) (fun _ => ?_))
          have c5 := i_nle c5
          rw [small_eq ce ha, e15]
          refine Pc.c (Pc.ok (P := fun s => s = -1) rfl) (fun s es => Pc.i (fun _ => ?_) (fun z => absurd es z))
          unfold mX3_choosePlan_b127
          refine Pc.b (fun x ex => ?_)
          have e : x = Int32.ofNat (p' + 1) := by rw [ex]; exact (Int32.ofNat_add p' 1).symm
          rw [e]
          exact IH2 (p' + 1) (by omega)
      unfold mX3_choosePlan_b127
      refine Pc.b (fun x ex => ?_)
      have e : x = Int32.ofNat (p + 1) := by rw [ex]; exact (Int32.ofNat_add p 1).symm
      rw [e]
      refine (stay fuel (p + 1) (by omega)).mono (fun q eq => ?_)
      rw [eq]
      exact ⟨KS.rf, Or.inr ⟨c2, Or.inl ⟨e15, h3⟩⟩⟩
    · rcases q15 with ⟨z, _⟩ | ⟨c, hc, es, ho, _, _⟩
      · exact absurd z c3
      subst es
      have hoT : op T a c = true := by rw [← ho]; unfold op; rw [ce.2.1]
      have st := hL.step n8 ha hra hc hoT
      have cp : (Int32.ofNat p).toNatClampNeg = p := c_of (by omega)
      rw [cp]
      refine Pc.k (fun _ => Pc.b (fun M21 e21 => Pc.b (fun M22 e22 => Pc.k (fun _ => Pc.b (fun x4 e4 => ?_)))))
      rw [pc_setBehind ha hc]
      refine Pc.c (Pc.ok (P := fun s => s = Int32.ofNat (a ||| 2 ^ (c / 2))) rfl) (fun r27 e27 => ?_)
      subst e27
      refine Pc.k (fun _ => Pc.b (fun x5 e5 => ?_))
      rw [f_15c st.2.2.2.2.1 hc] at e5
      rw [f_15c ha hc] at e4
      have kM : KS (fun c j => (c = 111 ∧ j = p) ∨ (c = 110 ∧ j = 3)) M M22 := by rw [e22, e21]; exact (KS.rf.wr (Or.inl ⟨rfl, rfl⟩)).wr (Or.inr ⟨rfl, rfl⟩)
      have k22 : KS SCh T M22 := hk.trans (kM.mono (fun c j h => by unfold SCh; omega))
      have e4' : x4 = rd T (110 + 20) (16 * a + c) := by rw [e4]; exact k22 _ _ (by unfold SCh; omega)
      have e5' : x5 = rd T (110 + 21) (16 * (a ||| 2 ^ (c / 2)) + c) := by rw [e5]; exact k22 _ _ (by unfold SCh; omega)
      have ep : Int32.ofNat p + 1 = Int32.ofNat (p + 1) := (Int32.ofNat_add p 1).symm
      have h3' : rd M22 110 3 = Int32.ofNat (p + 1) := by rw [e22, rd_we, ep]
      unfold mX3_choosePlan_b127
      refine Pc.b (fun x ex => ?_)
      have e : x = Int32.ofNat (p + 1) := by rw [ex, ep]
      rw [e]
      refine (IH (p + 1) _ (Int32.ofNat c) x4 x5 M22 (by omega) st.2.2.2.2.1 st.2.2.2.2.2 k22 h3').mono (fun q hq => ?_)
      obtain ⟨kq, hC⟩ := hq
      have kq : KS (fun c j => (c = 111 ∧ p + 1 ≤ j) ∨ (c = 110 ∧ j = 3)) M22 q.1 := kq
      refine ⟨(kM.mono (fun c j h => by omega)).trans (kq.mono (fun c j h => by omega)), Or.inr ⟨c2, Or.inr ⟨c, hc, e15, ?_, hoT, ?_⟩⟩⟩
      · rw [kq (110 + 1) p (by omega), e22, rd_wk (by decide), e21]; exact rd_we
      · rw [show j = 8 - (p + 1) by omega, ← e4', ← e5']
        exact hC
theorem Ch.of (hL : LI k m T 256) (n8 : nb k T ≤ 8) (hT : ∀ a, a < 256 → rc T a → CE k T k' T' a) (h3 : rd M' 110 3 = rd M 110 3) (h1 : ∀ j, rd M' (110 + 1) j = rd M (110 + 1) j) : ∀ (j p a : Nat) (l g r : Int32), a < 256 → rc T a → Ch k T M j p a l g r → Ch k' T' M' j p a l g r := by
  intro j
  induction j with
  | zero => intro p a l g r _ _ h; exact h3.trans h
  | succ j IH =>
    intro p a l g r ha hr h
    have ce := hT a ha hr
    rcases h with ⟨e, h⟩ | ⟨e, ⟨e1, h⟩ | ⟨c, hc, e1, e2, ho, h⟩⟩
    · exact Or.inl ⟨e, h3.trans h⟩
    · exact Or.inr ⟨e, Or.inl ⟨by rw [small_eq ce ha]; exact e1, h3.trans h⟩⟩
    · have st := hL.step n8 ha hr hc ho
      refine Or.inr ⟨e, Or.inr ⟨c, hc, by rw [small_eq ce ha]; exact e1, (h1 p).trans e2, by unfold op; rw [ce.2.1]; exact ho, ?_⟩⟩
      have q := ce.2.2.2 c hc ho
      rw [ce.2.2.1 c hc, q.2.1]
      exact IH _ _ _ _ _ st.2.2.2.2.1 st.2.2.2.2.2 h
/-- the planner's tables are those of a part -/
def PK (k m : Nat) (M : Mem) : Prop := LI k m M 256 ∧ CN k M ∧ LSd k M M 0 ∧ ∃ lc lg, mX1_lastCode k M = some lc ∧ mX1_lastGauge k M = some lg ∧ mX3_costOnward 110 k (Int32.ofNat m) lc lg 1 M = some (rd M 110 0) ∧ mX3_costOnward 110 k (Int32.ofNat m) lc lg 0 M = some (rd M 110 1) ∧ ((rd M 110 0 = -1 ∧ rd M 110 3 = -1) ∨ (¬ rd M 110 0 = -1 ∧ Ch k M M 8 0 m lc lg (rd M 110 0)))
theorem PK.of (h : PK k m M) (n8 : nb k M ≤ 8) (m256 : m < 256) (hB : BL k M k' M') (hG : GL k M k' M') (h0 : rd M' 110 0 = rd M 110 0 ∧ rd M' 110 1 = rd M 110 1 ∧ rd M' 110 3 = rd M 110 3) (h1 : ∀ c j, c = 111 ∨ c = 127 ∨ c = 128 ∨ c = 130 ∨ c = 131 ∨ c = 132 → rd M' c j = rd M c j) (hl : ∀ j, rl M' (110 + 19) j = rl M (110 + 19) j) : PK k' m M' := by
  obtain ⟨hL, hC, hS, lc, lg, e1, e2, e3, e4, e5⟩ := h
  have en := hB.bn
  have eo : op M' = op M := by funext a c; unfold op; rw [h1 _ _ (by omega)]
  have er : rc M' = rc M := by funext a; unfold rc; rw [h1 _ _ (by omega)]
  have ce : ∀ a, a < 256 → rc M a → CE k M k' M' a := fun a ha hr => by
    refine ⟨⟨hB.1, hB.2.1, hG.2.2.2.1, hG.2.2.2.2.1, hG.2.2.2.2.2⟩, h1 _ _ (by omega), fun _ _ => h1 _ _ (by omega), fun c hc ho => ⟨(hL.step n8 ha hr hc ho).2.2.2.2.1, h1 _ _ (by omega), h1 _ _ (by omega)⟩⟩
  refine ⟨?_, ?_, ?_, lc, lg, hG.2.1.trans e1, hG.2.2.1.trans e2, ?_, ?_, ?_⟩
  · obtain ⟨t1, t2, t3, t4, t5⟩ := hL
    refine ⟨t1.bl hB (fun _ => h1 _ _ (by omega)) (fun _ => h1 _ _ (by omega)), ?_, ?_, ?_, ?_⟩
    · rw [er]; exact t2
    · rw [er, en]; exact t3
    · intro b'; rw [er, eo, h1 _ _ (by omega)]; exact t4 b'
    · rw [er, eo]; exact t5
  · intro a ha hr
    rw [er] at hr
    rw [hl, en, eo, hC a ha hr]
    exact csum_eq 16 (fun _ _ => rfl) (fun c _ _ => (hl _).symm)
  · intro b c hb hc hr ho _
    rw [er] at hr
    rw [eo] at ho
    have st := hL.step n8 hb hr hc ho
    have q := hS b c hb hc hr ho (by omega)
    have ce2 := ce _ st.2.2.2.2.1 st.2.2.2.2.2
    unfold LSp
    rw [onw_eq ce2 st.2.2.2.2.1, onw_eq ce2 st.2.2.2.2.1, h1 _ _ (by omega), h1 (110 + 21) _ (by omega), h1 (110 + 22) _ (by omega)]
    exact q
  · rw [onw_eq (ce m m256 hL.2.1) m256, h0.1]; exact e3
  · rw [onw_eq (ce m m256 hL.2.1) m256, h0.2.1]; exact e4
  · rw [h0.1, h0.2.2]
    rcases e5 with q | ⟨q1, q2⟩
    · exact Or.inl q
    · exact Or.inr ⟨q1, Ch.of hL n8 ce h0.2.2 (fun j => h1 _ _ (by omega)) 8 0 m lc lg _ m256 hL.2.1 q2⟩
end CP
end
/-! part 60zzj.prep -/
section
/-! the planner prepared -/
def PV (M : Mem) : Prop := TabK 119 M ∧ (rd M 119 0).toInt ≤ 9 ∧ (¬ rd M 110 6 = 0 → ∃ m, m < 2 ^ nb 119 M ∧ rd M 119 13 = Int32.ofNat m ∧ PK 119 m M)
/-- what preparing writes -/
def SPp (c _ : Nat) : Prop := 110 ≤ c ∧ c ≤ 132
section PP
variable {k m : Nat} {M M' : Mem}
theorem pc_choose (hL : LI k m M 256) (h9 : (rd M k 0).toInt ≤ 9) (k8 : k + 8 ≤ 110) (hm : rd M k 13 = Int32.ofNat m) (m256 : m < 256) {lc lg : Int32} (elc : mX1_lastCode k M = some lc) (elg : mX1_lastGauge k M = some lg) : Pc (mX3_choosePlan 110 k M) (fun q => KS SCh M q.1 ∧ (∀ j, rl q.1 (110 + 19) j = rl M (110 + 19) j) ∧ ((rd M 110 0 = -1 ∧ rd q.1 110 3 = -1) ∨ (¬ rd M 110 0 = -1 ∧ Ch k M q.1 8 0 m lc lg (rd M 110 0)))) := by
  have n8 := nb8 h9
  unfold mX3_choosePlan
  refine Pc.b (fun x2 e2 => ?_)
  rw [elc, elg]
  refine Pc.c (Pc.ok (P := fun s => s = lc) rfl) (fun r3 e3 => Pc.c (Pc.ok (P := fun s => s = lg) rfl) (fun r6 e6 => Pc.b (fun x5 e5 => ?_)))
  subst e3
  subst e6
  have e2 : x2 = Int32.ofNat m := e2.trans hm
  subst e2
  unfold mX3_choosePlan_b34
  refine Pc.i (fun c => Pc.b (fun M10 e10 => ?_)) (fun c => Pc.b (fun M10 e10 => ?_))
  · have k10 : KS SCh M M10 := by rw [e10]; exact KS.rf.wr (Or.inr ⟨rfl, rfl⟩)
    show Pc (mX3_choosePlan_b40 110 k (mX3_choosePlan_l40 110 k 4999) (Int32.ofNat m) r3 r6 x5 (Int32.ofNat 0) M10) _
    unfold mX3_choosePlan_b40
    refine Pc.i (fun z => absurd z (by decide)) (fun _ => Pc.i (fun _ => Pc.ok ⟨k10, fun j => by rw [e10]; rfl, Or.inl ⟨by rw [← e5]; exact c, by rw [e10]; exact rd_we⟩⟩) (fun z => absurd c z))
  · have k10 : KS SCh M M10 := by rw [e10]; exact KS.rf.wr (Or.inr ⟨rfl, rfl⟩)
    have h10 : KL M M10 := by rw [e10]; exact KL.rf.wr
    have e0 : rd M 110 0 = x5 := e5.symm
    refine ((ch_l hL n8 k8 5000 0 m r3 r6 x5 M10 (by omega) m256 hL.2.1 k10 (by rw [e10]; exact rd_we)).and (lX3_choosePlan_l40 (k0 := 110) (k1 := k) h10)).mono (fun q h => ?_)
    obtain ⟨⟨h1, h2⟩, h3⟩ := h
    have h1 : KS (fun c j => (c = 111 ∧ 0 ≤ j) ∨ (c = 110 ∧ j = 3)) M10 q.1 := h1
    have h3 : KL M q.1 := h3
    exact ⟨k10.trans (h1.mono (fun c j h => by unfold SCh; omega)), h3.rl, Or.inr ⟨by rw [e0]; exact c, by rw [e0]; exact h2⟩⟩
theorem pc_prepare_b (k8 : k + 8 ≤ 110) (h9 : (rd M k 0).toInt ≤ 9) (hm : rd M k 13 = Int32.ofNat m) (hm2 : m < 2 ^ nb k M) (hT : TabK 119 M) {lc lg : Int32} (elc : mX1_lastCode k M = some lc) (elg : mX1_lastGauge k M = some lg) : Pc (mX3_prepare_b30 110 k M) (fun q => KS SPp M q.1 ∧ PK k m q.1 ∧ PV q.1) := by
  have n8 := nb8 h9
  have m256 := n_256 n8 hm2
  unfold mX3_prepare_b30
  refine Pc.m (pc_reachSets (by omega) h9 hm hm2 hT) (fun M4 _ p => ?_)
  obtain ⟨k4, L4, B4, G4, z4⟩ := p
  have k4 : KS SPr M M4 := k4
  have bk4 : BL k M k M4 := BL.ks k4 (fun c j h1 h2 z => by unfold SPr at z; omega)
  have gk4 : GL k M k M4 := GL.ks k4 (fun c j h1 h2 z => by unfold SPr at z; omega)
  have h94 : (rd M4 k 0).toInt ≤ 9 := by rw [bk4.1]; exact h9
  refine Pc.m (pc_countOrders h94 L4) (fun M7 _ p => ?_)
  obtain ⟨k7, C7⟩ := p
  have k7 : ∀ c j, rd M7 c j = rd M4 c j := k7
  have K7 : KS (fun _ _ => False) M4 M7 := fun c j _ => k7 c j
  have K7s : KS SCs M4 M7 := K7.mono (fun c j h => h.elim)
  have L7 : LI k m M7 256 := L4.ks k8 K7s
  have bk7 : BL k M k M7 := bk4.tr (BL.ks K7 (fun c j h1 h2 z => z))
  have gk7 : GL k M k M7 := gk4.tr (GL.ks K7 (fun c j h1 h2 z => z))
  have h97 : (rd M7 k 0).toInt ≤ 9 := by rw [bk7.1]; exact h9
  refine Pc.m ((pc_reckon L7 h97 k8 (gk7.1.trans hm) m256 (gk7.2.1.trans elc) (gk7.2.2.1.trans elg)).and (lX3_reckonCosts (k0 := 110) (k1 := k) (KL.rf : KL M7 M7))) (fun M10 _ p => ?_)
  obtain ⟨⟨k10, S10, t10, u10⟩, l10⟩ := p
  have k10 : KS SCs M7 M10 := k10
  have l10 : KL M7 M10 := l10
  have L10 : LI k m M10 256 := L7.ks k8 k10
  have bk10 : BL k M k M10 := bk7.tr (BL.ks k10 (fun c j h1 h2 z => by unfold SCs at z; omega))
  have gk10 : GL k M k M10 := gk7.tr (GL.ks k10 (fun c j h1 h2 z => by unfold SCs at z; omega))
  have h910 : (rd M10 k 0).toInt ≤ 9 := by rw [bk10.1]; exact h9
  refine Pc.m (pc_choose L10 h910 k8 (gk10.1.trans hm) m256 (gk10.2.1.trans elc) (gk10.2.2.1.trans elg)) (fun M13 _ p => ?_)
  obtain ⟨k13, l13, pl⟩ := p
  have k13 : KS SCh M10 M13 := k13
  have l13 : ∀ j, rl M13 (110 + 19) j = rl M10 (110 + 19) j := l13
  refine Pc.b (fun M14 e14 => Pc.ok ?_)
  -- all together, at the end
  have k14 : KS (fun c j => SCh c j ∨ (c = 110 ∧ j = 6)) M10 M14 := by rw [e14]; exact (k13.mono (fun c j h => Or.inl h)).wr (Or.inr ⟨rfl, rfl⟩)
  have l14 : ∀ j, rl M14 (110 + 19) j = rl M10 (110 + 19) j := fun j => by rw [e14]; exact l13 j
  have r10 : ∀ c j, c = 127 ∨ c = 128 ∨ c = 130 → rd M10 c j = rd M4 c j := fun c j h => (k10 c j (by unfold SCs; omega)).trans (k7 c j)
  have r14 : ∀ c j, c = 127 ∨ c = 128 ∨ c = 130 ∨ c = 131 ∨ c = 132 → rd M14 c j = rd M10 c j := fun c j h => k14 c j (by unfold SCh; omega)
  have bk14 : BL k M10 k M14 := BL.ks k14 (fun c j h1 h2 z => by unfold SCh at z; omega)
  have gk14 : GL k M10 k M14 := GL.ks k14 (fun c j h1 h2 z => by unfold SCh at z; omega)
  have n10 : nb k M10 ≤ 8 := nb8 h910
  -- the counts are still right
  have C10 : CN k M10 := by
    intro a ha hr
    have eo : op M10 a = op M7 a := by funext c; unfold op; rw [k10 _ _ (by unfold SCs; omega)]
    have hr7 : rc M7 a := by unfold rc; rw [← k10 _ _ (by unfold SCs; omega)]; exact hr
    have en : nb k M10 = nb k M7 := (BL.ks (k := k) k10 (fun c j h1 h2 z => by unfold SCs at z; omega)).bn
    rw [l10.rl, en, eo, C7 a ha hr7]
    exact csum_eq 16 (fun _ _ => rfl) (fun c _ _ => (l10.rl _).symm)
  have S10' : LSd k M10 M10 0 := by
    intro b c hb hc hr ho _
    refine S10 b c hb hc ?_ ?_ (by omega)
    · unfold rc; rw [← k10 _ _ (by unfold SCs; omega)]; exact hr
    · unfold op; rw [← k10 _ _ (by unfold SCs; omega)]; exact ho
  have P10 : ∀ T, T = M14 → PK k m T := by
    intro T eT
    have n14 : nb k M14 ≤ 8 := by rw [bk14.bn]; exact n10
    have L14 : LI k m M14 256 := by
      obtain ⟨t1, t2, t3, t4, t5⟩ := L10
      have eo : op M14 = op M10 := by funext a c; unfold op; rw [r14 _ _ (by omega)]
      have er : rc M14 = rc M10 := by funext a; unfold rc; rw [r14 _ _ (by omega)]
      refine ⟨t1.bl bk14 (fun _ => r14 _ _ (by omega)) (fun _ => r14 _ _ (by omega)), ?_, ?_, ?_, ?_⟩
      · rw [er]; exact t2
      · rw [er, bk14.bn]; exact t3
      · intro b'; rw [er, eo, r14 _ _ (by omega)]; exact t4 b'
      · rw [er, eo]; exact t5
    have eo : op M14 = op M10 := by funext a c; unfold op; rw [r14 _ _ (by omega)]
    have er : rc M14 = rc M10 := by funext a; unfold rc; rw [r14 _ _ (by omega)]
    have ce : ∀ a, a < 256 → rc M10 a → CE k M10 k M14 a := fun a ha hr => KS.ce L10 n10 k14 (fun c j z => by unfold SCh at z; omega) ha hr
    subst eT
    refine ⟨L14, ?_, ?_, lc, lg, (gk10.tr gk14).2.1.trans elc, (gk10.tr gk14).2.2.1.trans elg, ?_, ?_, ?_⟩
    · intro a ha hr
      rw [er] at hr
      rw [l14, bk14.bn, eo, C10 a ha hr]
      exact csum_eq 16 (fun _ _ => rfl) (fun c _ _ => (l14 _).symm)
    · intro b c hb hc hr ho _
      rw [er] at hr
      rw [eo] at ho
      have st := L10.step n10 hb hr hc ho
      have q := S10' b c hb hc hr ho (by omega)
      have ce2 := ce _ st.2.2.2.2.1 st.2.2.2.2.2
      unfold LSp
      rw [onw_eq ce2 st.2.2.2.2.1, onw_eq ce2 st.2.2.2.2.1, r14 _ _ (by omega), r14 (110 + 21) _ (by omega), r14 (110 + 22) _ (by omega)]
      exact q
    · rw [onw_eq (ce m m256 L10.2.1) m256, k14 110 0 (by unfold SCh; omega)]; exact t10
    · rw [onw_eq (ce m m256 L10.2.1) m256, k14 110 1 (by unfold SCh; omega)]; exact u10
    · have e0 : rd T 110 0 = rd M10 110 0 := k14 110 0 (by unfold SCh; omega)
      have e3 : rd T 110 3 = rd M13 110 3 := by rw [e14]; exact rd_wj (by decide)
      have e1 : ∀ j, rd T (110 + 1) j = rd M13 (110 + 1) j := fun j => by rw [e14]; exact rd_wk (by decide)
      rw [e0, e3]
      rcases pl with q | ⟨q1, q2⟩
      · exact Or.inl q
      · exact Or.inr ⟨q1, Ch.of L10 n10 ce e3 e1 8 0 m lc lg _ m256 L10.2.1 q2⟩
  have PM := P10 M14 rfl
  -- the known part
  have K414 : KS (fun c j => SCs c j ∨ SCh c j ∨ (c = 110 ∧ j = 6)) M4 M14 := (K7.mono (fun c j h => h.elim)).trans ((k10.mono (fun c j h => Or.inl h)).trans (k14.mono (fun c j h => Or.inr h)))
  have b119 : BL k M 119 M14 := B4.tr (BL.ks K414 (fun c j h1 h2 z => by unfold SCs SCh at z; omega))
  have g119 : GL k M 119 M14 := G4.tr (GL.ks K414 (fun c j h1 h2 z => by unfold SCs SCh at z; omega))
  have bkM : BL k M14 119 M14 := (bk10.tr bk14).sy.tr b119
  have gkM : GL k M14 119 M14 := (gk10.tr gk14).sy.tr g119
  have n14 : nb k M14 ≤ 8 := by rw [(bk10.tr bk14).bn]; exact n8
  have P119 : PK 119 m M14 := PM.of n14 m256 bkM gkM ⟨rfl, rfl, rfl⟩ (fun _ _ _ => rfl) (fun _ => rfl)
  refine ⟨?_, PM, P119.1.1, ?_, fun _ => ⟨m, ?_, ?_, P119⟩⟩
  · refine (k4.mono (fun c j h => ?_)).trans (K414.mono (fun c j h => ?_))
    · unfold SPr at h; unfold SPp; omega
    · unfold SCs SCh at h; unfold SPp; omega
  · rw [b119.1]; exact h9
  · rw [b119.bn]; exact hm2
  · rw [g119.1]; exact hm
theorem pc_prepare (k8 : k + 8 ≤ 110) (h9 : (rd M k 0).toInt ≤ 9) (hm : rd M k 13 = Int32.ofNat m) (hm2 : m < 2 ^ nb k M) (hV : PV M) {lc lg : Int32} (elc : mX1_lastCode k M = some lc) (elg : mX1_lastGauge k M = some lg) : Pc (mX3_prepare 110 k M) (fun q => KS SPp M q.1 ∧ PK k m q.1 ∧ PV q.1) := by
  have n8 := nb8 h9
  have m256 := n_256 n8 hm2
  have hb := pc_prepare_b k8 h9 hm hm2 hV.1 elc elg
  unfold mX3_prepare
  refine Pc.i (fun _ => hb) (fun c1 => Pc.c pc_bendsL (fun r17 p17 => Pc.i (fun _ => hb) (fun c2 => Pc.c pc_goesOn (fun r21 p21 => Pc.i (fun _ => hb) (fun c3 => Pc.ok ?_)))))
  have hB := p17 c2
  have hG := p21 c3
  obtain ⟨m', hm', e', hP⟩ := hV.2.2 c1
  have em : m' = m := by
    have q : Int32.ofNat m' = Int32.ofNat m := e'.symm.trans (hG.1.trans hm)
    have n119 : nb 119 M ≤ 8 := by rw [hB.bn]; exact n8
    have := n_256 n119 hm'
    exact o_inj (by omega) (by omega) q
  subst em
  exact ⟨KS.rf, hP.of (by rw [hB.bn]; exact n8) m256 hB.sy hG.sy ⟨rfl, rfl, rfl⟩ (fun _ _ _ => rfl) (fun _ => rfl), hV⟩
end PP
end
/-! part 60zzk.orders -/
section
/-! the reference lays its orders: what its tables say -/
def cnb (N : Mem) (a c : Nat) : Bool := !decide (rd N (135 + 10) (16 * a + c) = 0)
def ROk (N0 : Mem) (a c : Nat) (o : Bool) : Prop := ∃ N1 q1, row 136 N1 = row 136 N0 ∧ mX7_reasonOf 135 (Int32.ofNat (c / 2)) (Int32.ofNat (c % 2)) (Int32.ofNat a) N1 = some q1 ∧ (o = true ↔ q1.2 = 0)
def LOp (n : Nat) (N0 N : Mem) (a c : Nat) : Prop := (∀ c', c' < c → ROk N0 a c' (cnb N a c') ∧ (cnb N a c' = true → a.testBit (c' / 2) = false)) ∧ rl N (135 + 12) a = csum (if a = 2 ^ n - 1 then 1 else 0) (cnb N a) (fun c => rl N (135 + 12) (a ||| 2 ^ (c / 2))) c
def LOa (n m : Nat) (N0 N : Mem) (a : Nat) : Prop := ∀ b, a ≤ b → b < 2 ^ n → b &&& m = m → LOp n N0 N b (2 * n)
section LO
variable {g : Gm} {n m a b c : Nat} {N N' N0 : Mem} {P : Mem × Unit → Prop}
theorem LOp.of (h : LOp n N0 N a c) (h1 : ∀ c', c' < c → rd N' (135 + 10) (16 * a + c') = rd N (135 + 10) (16 * a + c')) (h2 : ∀ b, a ≤ b → rl N' (135 + 12) b = rl N (135 + 12) b) : LOp n N0 N' a c := by
  have e : ∀ c', c' < c → cnb N' a c' = cnb N a c' := fun c' hc => by unfold cnb; rw [h1 c' hc]
  refine ⟨fun c' hc => by rw [e c' hc]; exact h.1 c' hc, ?_⟩
  rw [h2 a (Nat.le_refl _), h.2]
  exact csum_eq c (fun c' hc => (e c' hc).symm) (fun c' hc _ => (h2 _ Nat.left_le_or).symm)
theorem LOa.of (h : LOa n m N0 N a) (h1 : ∀ b c', a ≤ b → c' < 2 * n → rd N' (135 + 10) (16 * b + c') = rd N (135 + 10) (16 * b + c')) (h2 : ∀ b, a ≤ b → rl N' (135 + 12) b = rl N (135 + 12) b) : LOa n m N0 N' a := fun b hb h3 h4 => (h b hb h3 h4).of (fun c' hc => h1 b c' hb hc) (fun b' hb' => h2 b' (by omega))
theorem row_keep (hk : Keep N N') : row 136 N' = row 136 N := by
  funext j; exact hk.1 136 j (by unfold W1; omega)
theorem lo_in (ha : a < 2 ^ n) {ih5 : Int32 → Mem → Option (Mem × Unit)} (H : ∀ N, OKm (w2 g) N → NM n m N → row 136 N = row 136 N0 → LOa n m N0 N a → Pc (ih5 (Int32.ofNat a + (-1 : Int32)) N) P) : ∀ (fuel c : Nat) (N : Mem), OKm (w2 g) N → NM n m N → row 136 N = row 136 N0 → LOa n m N0 N (a + 1) → (a &&& m = m → LOp n N0 N a c) → c ≤ 2 * n → Pc (mX7_layOrders_l30 135 ih5 fuel (Int32.ofNat a) (Int32.ofNat c) N) P := by
  intro fuel
  induction fuel with
  | zero => intro c N _ _ _ _ _ _ q e; cases e
  | succ fuel IH =>
    intro c N hM hN hR hA hP hc
    have hn := hN.2.1
    have hp := z_pow n hn
    have fin : (a &&& m = m → LOp n N0 N a (2 * n)) → Pc (mX7_layOrders_b117 135 ih5 (Int32.ofNat a) N) P := by
      intro hG
      unfold mX7_layOrders_b117
      refine Pc.b (fun x ex => ?_)
      rw [ex]
      refine H N hM hN hR (fun b hb hb2 hb3 => ?_)
      by_cases e : b = a
      · subst e; exact hG hb3
      · exact hA b (by omega) hb2 hb3
    show Pc (mX7_layOrders_b30 135 ih5 (mX7_layOrders_l30 135 ih5 fuel) (Int32.ofNat a) (Int32.ofNat c) N) P
    unfold mX7_layOrders_b30
    have hN2 := n2_of hN
    refine Pc.k (fun _ => Pc.i (fun cc => fin (fun hb => ?_)) (fun cc => ?_))
    · have cc := i_le.mp cc
      rw [hN2, t_of (by omega)] at cc
      have : c = 2 * n := by omega
      subst this
      exact hP hb
    have cc := i_nle cc
    rw [hN2, t_of (by omega)] at cc
    have hc2 : c < 2 * n := by omega
    rw [pl_behind hN (a := a) (by omega)]
    refine Pc.c (Pc.ok (P := fun r => r = if a &&& m = m then 1 else 0) rfl) (fun r er => ?_)
    by_cases hb : a &&& m = m
    rotate_left
    · rw [if_neg hb] at er
      subst er
      exact Pc.i (fun _ => fin (fun q => absurd q hb)) (fun q => absurd rfl q)
    rw [if_pos hb] at er
    subst er
    refine Pc.i (fun q => absurd q (by decide)) (fun _ => ?_)
    have e1 : Int32.ofNat c - Int32.ofNat c / (2 : Int32) * (2 : Int32) = Int32.ofNat (c % 2) := f_mod c (by omega)
    have e2 : Int32.ofNat c / (2 : Int32) = Int32.ofNat (c / 2) := f_half c (by omega)
    refine Pc.m ((Pc.self _).and (pl_reason hM (a := a) (c := c) (by omega) (by omega)).toPc) (fun M21 r20 p => ?_)
    obtain ⟨ep, h21, k21, pb⟩ := p
    rw [e1, e2] at ep
    have h21 : OKm (w2 g) M21 := h21
    have k21 : Keep N M21 := k21
    have N21 : NM n m M21 := hN.keep k21
    have R21 : row 136 M21 = row 136 N0 := (row_keep k21).trans hR
    have d21 : ∀ j, rd M21 (135 + 10) j = rd N (135 + 10) j := fun j => k21.1 _ _ (by unfold W1; omega)
    have l21 : ∀ j, rl M21 (135 + 12) j = rl N (135 + 12) j := fun j => k21.2 _ _
    have A21 : LOa n m N0 M21 (a + 1) := hA.of (fun _ _ _ _ => d21 _) (fun _ _ => l21 _)
    have P21 : LOp n N0 M21 a c := (hP hb).of (fun _ _ => d21 _) (fun _ _ => l21 _)
    have ca : (Int32.ofNat a).toNatClampNeg = a := c_of (by omega)
    have next : ∀ (o : Int32) (M30 : Mem), (o = 0 ∨ o = 1) → (o = 1 ↔ r20 = 0) → OKm (w2 g) M30 → (∀ k j, rd M30 k j = rd (wr M21 (135 + 10) (16 * a + c) o) k j) → (∀ b, b ≠ a → rl M30 (135 + 12) b = rl M21 (135 + 12) b) → rl M30 (135 + 12) a = (if o = 1 then rl M21 (135 + 12) a + rl M21 (135 + 12) (a ||| 2 ^ (c / 2)) else rl M21 (135 + 12) a) → Pc (bnd (Int32.ofNat c + (1 : Int32)) (fun x2_111 => mX7_layOrders_l30 135 ih5 fuel (Int32.ofNat a) x2_111 M30)) P := by
      intro o M30 ho ho2 h30 k30 l30 s30
      refine Pc.b (fun x ex => ?_)
      have e : x = Int32.ofNat (c + 1) := by rw [ex]; exact (Int32.ofNat_add c 1).symm
      rw [e]
      have q30 : ∀ j, rd M30 136 j = rd M21 136 j := fun j => by rw [k30]; exact rd_wk (by decide)
      have dn : ∀ j, j ≠ 16 * a + c → rd M30 (135 + 10) j = rd M21 (135 + 10) j := fun j hj => by rw [k30]; exact rd_wj hj
      have de : rd M30 (135 + 10) (16 * a + c) = o := by rw [k30]; exact rd_we
      have co : cnb M30 a c = true ↔ o = 1 := by
        unfold cnb
        rw [de]
        rcases ho with rfl | rfl <;> decide
      have cn : ∀ c', c' < c → cnb M30 a c' = cnb M21 a c' := fun c' hc' => by unfold cnb; rw [dn _ (by omega)]
      have bt0 : cnb M30 a c = true → a.testBit (c / 2) = false := fun z => pb (ho2.mp (co.mp z))
      refine IH (c + 1) M30 h30 ⟨(q30 0).trans N21.1, hn, (q30 52).trans N21.2.2.1, N21.2.2.2⟩ ((funext q30 : row 136 M30 = row 136 M21).trans R21) (A21.of (fun b' c' hb' hc' => dn _ (by omega)) (fun b' hb' => l30 b' (by omega))) (fun _ => ⟨fun c' hc' => ?_, ?_⟩) (by omega)
      · by_cases e : c' = c
        · subst e
          exact ⟨⟨N, (M21, r20), hR, ep, co.trans ho2⟩, bt0⟩
        · rw [cn c' (by omega)]
          exact P21.1 c' (by omega)
      · have olds : csum (if a = 2 ^ n - 1 then 1 else 0) (cnb M30 a) (fun c => rl M30 (135 + 12) (a ||| 2 ^ (c / 2))) c = rl M21 (135 + 12) a := by
          rw [P21.2]
          refine csum_eq c (fun c' hc' => cn c' hc') (fun c' hc' ho' => l30 _ ?_)
          have hbt := (P21.1 c' hc').2 ho'
          have hz := z_set n hn a ha (c' / 2) (by omega) hbt
          omega
        show _ = if cnb M30 a c = true then _ else _
        rw [olds, s30]
        by_cases z : o = 1
        · rw [if_pos z, if_pos (co.mpr z)]
          have hz := z_set n hn a ha (c / 2) (by omega) (bt0 (co.mpr z))
          show _ = _ + rl M30 (135 + 12) (a ||| 2 ^ (c / 2))
          rw [l30 _ (by omega)]
        · rw [if_neg z, if_neg (fun q => z (co.mp q))]
    refine Pc.i (fun q => ?_) (fun q => ?_)
    · have q : r20 = 0 := q
      have ht := pb q
      have hst := z_set n hn a ha (c / 2) (by omega) ht
      unfold mX7_layOrders_b69
      rw [show vp_nar .boolean (1 : Int32) = 1 from by decide, ix16c (by omega) (by omega)]
      refine Pc.k (fun _ => Pc.b (fun M25 e25 => Pc.k (fun _ => Pc.i (fun q => absurd q (by decide)) (fun _ => ?_))))
      rw [f_half c (by omega), f_or a (by omega) (c / 2) (by omega), c_of (a := a ||| 2 ^ (c / 2)) (by omega), ca]
      refine Pc.k (fun _ => ?_)
      unfold mX7_layOrders_b109
      rw [ca]
      refine Pc.k (fun _ => Pc.b (fun M30 e30 => ?_))
      have h25 : OKm (w2 g) M25 := by rw [e25]; exact okm_c2 h21 (by decide)
      refine next 1 M30 (Or.inr rfl) ⟨fun _ => q, fun _ => rfl⟩ (by rw [e30]; exact okm_l2 h25) (fun k j => by rw [e30, e25]; rfl) (fun b hb => by rw [e30, e25]; exact rl_wj hb) ?_
      rw [if_pos rfl, e30, e25]
      exact rl_we
    · unfold mX7_layOrders_b69
      rw [show vp_nar .boolean (0 : Int32) = 0 from by decide, ix16c (by omega) (by omega)]
      refine Pc.k (fun _ => Pc.b (fun M25 e25 => Pc.k (fun _ => Pc.i (fun _ => ?_) (fun q => absurd rfl q))))
      unfold mX7_layOrders_b109
      rw [ca]
      refine Pc.k (fun _ => Pc.b (fun M30 e30 => ?_))
      have h25 : OKm (w2 g) M25 := by rw [e25]; exact okm_c2 h21 (by decide)
      refine next 0 M30 (Or.inl rfl) ⟨fun z => absurd z (by decide), fun z => absurd z q⟩ (by rw [e30]; exact okm_l2 h25) (fun k j => by rw [e30, e25]; rfl) (fun b hb => by rw [e30, e25]; exact rl_wj hb) ?_
      rw [if_neg (by decide), e30, e25, rl_we]
      exact Int64.add_zero _
theorem lo_out : ∀ (fuel a : Nat) (x : Int32) (N : Mem), x.toInt = (a : Int) - 1 → a ≤ 2 ^ n → OKm (w2 g) N → NM n m N → row 136 N = row 136 N0 → LOa n m N0 N a → Pc (mX7_layOrders_l5 135 fuel x N) (fun q => OKm (w2 g) q.1 ∧ NM n m q.1 ∧ row 136 q.1 = row 136 N0 ∧ LOa n m N0 q.1 0) := by
  intro fuel
  induction fuel with
  | zero => intro a x N _ _ _ _ _ _ q e; cases e
  | succ fuel IH =>
    intro a x N hx ha hM hN hR hA
    have hn := hN.2.1
    have hp := z_pow n hn
    show Pc (mX7_layOrders_b5 135 (mX7_layOrders_l5 135 fuel) x N) _
    unfold mX7_layOrders_b5
    refine Pc.i (fun c => ?_) (fun c => ?_)
    · have c := i_lt.mp c
      rw [show ((0 : Int32)).toInt = 0 from rfl] at c
      have : a = 0 := by omega
      subst this
      exact Pc.ok ⟨hM, hN, hR, hA⟩
    · have c := i_nlt c
      rw [show ((0 : Int32)).toInt = 0 from rfl] at c
      obtain ⟨b, rfl⟩ : ∃ b, a = b + 1 := ⟨a - 1, by omega⟩
      have ex : x = Int32.ofNat b := by
        have := o_of (x := x) (by omega)
        rw [this]; congr 1; omega
      subst ex
      rw [pl_full hN]
      refine Pc.c (Pc.ok (P := fun r => r = Int32.ofNat (2 ^ n - 1)) rfl) (fun r er => ?_)
      subst er
      have cb : (Int32.ofNat b).toNatClampNeg = b := c_of (by omega)
      have go : ∀ v : Int64, (v = if b = 2 ^ n - 1 then 1 else 0) → Pc (mX7_layOrders_b27 135 (mX7_layOrders_l5 135 fuel) (Int32.ofNat b) (Int32.ofNat b) v N) (fun q => OKm (w2 g) q.1 ∧ NM n m q.1 ∧ row 136 q.1 = row 136 N0 ∧ LOa n m N0 q.1 0) := by
        intro v hv
        unfold mX7_layOrders_b27
        rw [cb]
        refine Pc.k (fun _ => Pc.b (fun M11 e11 => ?_))
        have r11 : ∀ k j, rd M11 k j = rd N k j := fun k j => by rw [e11]; rfl
        have h11 : OKm (w2 g) M11 := by rw [e11]; exact okm_l2 hM
        refine lo_in (g := g) (n := n) (m := m) (N0 := N0) (by omega) (fun M' h' N' R' A' => ?_) 5000 0 M11 h11 ⟨(r11 _ _).trans hN.1, hn, (r11 _ _).trans hN.2.2.1, hN.2.2.2⟩ ((funext (r11 136) : row 136 M11 = row 136 N).trans hR) (hA.of (fun _ _ _ _ => r11 _ _) (fun b' hb' => by rw [e11]; exact rl_wj (by omega))) (fun _ => ⟨fun c' h => by omega, ?_⟩) (by omega)
        · refine IH b _ M' ?_ (by omega) h' N' R' A'
          rw [i_add (by rw [t_of (by omega), show ((-1 : Int32)).toInt = -1 from rfl]; omega) (by rw [t_of (by omega), show ((-1 : Int32)).toInt = -1 from rfl]; omega), t_of (by omega)]
          rfl
        · rw [e11]
          exact rl_we.trans hv
      refine Pc.i (fun e => go 1 ?_) (fun e => go 0 ?_)
      · rw [if_pos (o_inj (by omega) (by omega) e)]
      · rw [if_neg (fun q => e (congrArg Int32.ofNat q))]
theorem pc_layOrders (h : OKm g N) (hN : NM n m N) : Pc (mX7_layOrders 135 N) (fun q => OKm (w2 g) q.1 ∧ NM n m q.1 ∧ row 136 q.1 = row 136 N ∧ LOa n m N q.1 0 ∧ Al n m q.1 0) := by
  have hp := z_pow n hN.2.1
  have key : Pc (mX7_layOrders 135 N) (fun q => OKm (w2 g) q.1 ∧ NM n m q.1 ∧ row 136 q.1 = row 136 N ∧ LOa n m N q.1 0) := by
    unfold mX7_layOrders
    rw [pl_full hN]
    refine Pc.c (Pc.ok (P := fun r => r = Int32.ofNat (2 ^ n - 1)) rfl) (fun r er => ?_)
    subst er
    exact lo_out 5000 (2 ^ n) _ N (by rw [t_of (by omega)]; omega) (by omega) h.w2 hN rfl (fun b h1 h2 => by omega)
  exact (key.and (sX7_layOrders' h hN).toPc).mono (fun q h => ⟨h.1.1, h.1.2.1, h.1.2.2.1, h.1.2.2.2, h.2.2.2⟩)
end LO
end
/-! part 60zzl.costs -/
section
/-! the reference lays its costs: what its tables say -/
def foldF (x0 : Int32) (o : Nat → Bool) (f : Int32 → Int32 → Int32) (t : Nat → Int32) : Nat → Int32
  | 0 => x0
  | c + 1 => if o c = true then f (foldF x0 o f t c) (t c) else foldF x0 o f t c
def cst (N : Mem) (a l c : Nat) : Int32 := (cstO N (Int32.ofNat a) (Int32.ofNat l) (Int32.ofNat c)).getD 0
def lowF (n : Nat) (N : Mem) (a l : Nat) (c : Nat) : Int32 := foldF (if a = 2 ^ n - 1 then 0 else 1000000) (cnb N a) imin (fun c => cst N a l c + rd N (135 + 13) (17 * (a ||| 2 ^ (c / 2)) + c)) c
def highF (n : Nat) (N : Mem) (a l : Nat) (c : Nat) : Int32 := foldF (if a = 2 ^ n - 1 then 0 else -1000000) (cnb N a) imax (fun c => cst N a l c + rd N (135 + 14) (17 * (a ||| 2 ^ (c / 2)) + c)) c
def GOk (N0 : Mem) (a c : Nat) (v : Int32) : Prop := ∃ N1 q1, row 136 N1 = row 136 N0 ∧ mX7_gaugeOf 135 (Int32.ofNat (c / 2)) (Int32.ofNat (c % 2)) (Int32.ofNat a) N1 = some q1 ∧ v = q1.2
def GOa (n : Nat) (N0 N : Mem) : Prop := ∀ a c, a < 2 ^ n → c < 2 * n → GOk N0 a c (rd N (135 + 11) (16 * a + c))
def CLp (n : Nat) (N : Mem) (a l : Nat) : Prop := rd N (135 + 13) (17 * a + l) = lowF n N a l (2 * n) ∧ rd N (135 + 14) (17 * a + l) = highF n N a l (2 * n)
def CLa (n m : Nat) (N : Mem) (a : Nat) : Prop := ∀ b, a ≤ b → b < 2 ^ n → b &&& m = m → ∀ l, VL n b l → CLp n N b l
/-- what stays while costs are laid -/
def CBx (n m : Nat) (N0 N : Mem) : Prop := NM n m N ∧ row 136 N = row 136 N0 ∧ LOa n m N0 N 0 ∧ GOa n N0 N
section CO2
variable {g : Gm} {n m a b c l : Nat} {N N' N0 : Mem} {P : Mem × Unit → Prop}
theorem foldF_eq {x0 : Int32} {o o' : Nat → Bool} {f : Int32 → Int32 → Int32} {t t' : Nat → Int32} : ∀ n, (∀ c, c < n → o' c = o c) → (∀ c, c < n → o c = true → t' c = t c) → foldF x0 o' f t' n = foldF x0 o f t n := by
  intro n
  induction n with
  | zero => intro _ _; rfl
  | succ n IH =>
    intro h1 h2
    show (if o' n = true then f (foldF x0 o' f t' n) (t' n) else foldF x0 o' f t' n) = (if o n = true then f (foldF x0 o f t n) (t n) else foldF x0 o f t n)
    rw [h1 n (by omega), IH (fun c hc => h1 c (by omega)) (fun c hc => h2 c (by omega))]
    by_cases q : o n = true
    · rw [if_pos q, if_pos q, h2 n (by omega) q]
    · rw [if_neg q, if_neg q]
/-- the costs of a set look at larger sets alone -/
theorem fold_of (hn : n < 9) (ha : a < 2 ^ n) (hL : LOp n N0 N a (2 * n)) (e1 : ∀ j, rd N' (135 + 1) j = rd N (135 + 1) j) (e10 : ∀ j, rd N' (135 + 10) j = rd N (135 + 10) j) (e11 : ∀ j, rd N' (135 + 11) j = rd N (135 + 11) j) (e13 : ∀ b c, a < b → c < 16 → rd N' (135 + 13) (17 * b + c) = rd N (135 + 13) (17 * b + c) ∧ rd N' (135 + 14) (17 * b + c) = rd N (135 + 14) (17 * b + c)) : lowF n N' a l (2 * n) = lowF n N a l (2 * n) ∧ highF n N' a l (2 * n) = highF n N a l (2 * n) := by
  have ec : ∀ c, cnb N' a c = cnb N a c := fun c => by unfold cnb; rw [e10]
  have es : ∀ c, cst N' a l c = cst N a l c := fun c => by unfold cst; rw [cst_same e1 e11]
  have st : ∀ c, c < 2 * n → cnb N a c = true → a < (a ||| 2 ^ (c / 2)) := fun c hc ho => (z_set n hn a ha (c / 2) (by omega) ((hL.1 c hc).2 ho)).2.1
  constructor
  · exact foldF_eq (2 * n) (fun c _ => ec c) (fun c hc ho => by rw [es, (e13 _ c (st c hc ho) (by omega)).1])
  · exact foldF_eq (2 * n) (fun c _ => ec c) (fun c hc ho => by rw [es, (e13 _ c (st c hc ho) (by omega)).2])
theorem CLp.of (h : CLp n N a l) (hn : n < 9) (ha : a < 2 ^ n) (hL : LOp n N0 N a (2 * n)) (e1 : ∀ j, rd N' (135 + 1) j = rd N (135 + 1) j) (e10 : ∀ j, rd N' (135 + 10) j = rd N (135 + 10) j) (e11 : ∀ j, rd N' (135 + 11) j = rd N (135 + 11) j) (e13 : ∀ b c, a < b → c < 16 → rd N' (135 + 13) (17 * b + c) = rd N (135 + 13) (17 * b + c) ∧ rd N' (135 + 14) (17 * b + c) = rd N (135 + 14) (17 * b + c)) (e : rd N' (135 + 13) (17 * a + l) = rd N (135 + 13) (17 * a + l) ∧ rd N' (135 + 14) (17 * a + l) = rd N (135 + 14) (17 * a + l)) : CLp n N' a l := by
  have q := fold_of (l := l) hn ha hL e1 e10 e11 e13
  exact ⟨e.1.trans (h.1.trans q.1.symm), e.2.trans (h.2.trans q.2.symm)⟩
theorem lc_in (hN : NM n m N) (ha : a < 2 ^ n) (hl : l ≤ 16) (hL : LOp n N0 N a (2 * n)) : ∀ (fuel c : Nat) (x3 x4 : Int32), x3 = lowF n N a l c → x4 = highF n N a l c → c ≤ 2 * n → Pc (mX7_layCost_l36 135 fuel (Int32.ofNat a) (Int32.ofNat l) x3 x4 (Int32.ofNat c) N) (fun q => q.1 = wr (wr N (135 + 13) (17 * a + l) (lowF n N a l (2 * n))) (135 + 14) (17 * a + l) (highF n N a l (2 * n))) := by
  intro fuel
  induction fuel with
  | zero => intro c x3 x4 _ _ _ q e; cases e
  | succ fuel IH =>
    intro c x3 x4 h3 h4 hc
    have hn := hN.2.1
    have hp := z_pow n hn
    show Pc (mX7_layCost_b36 135 (mX7_layCost_l36 135 fuel) (Int32.ofNat a) (Int32.ofNat l) x3 x4 (Int32.ofNat c) N) _
    unfold mX7_layCost_b36
    refine Pc.k (fun _ => Pc.i (fun cc => ?_) (fun cc => ?_))
    · have cc := i_le.mp cc
      rw [n2_of hN, t_of (by omega)] at cc
      have : c = 2 * n := by omega
      subst this
      refine Pc.k (fun _ => Pc.b (fun M13 e13 => Pc.k (fun _ => Pc.b (fun M16 e16 => Pc.ok ?_))))
      show M16 = _
      rw [e16, e13, ix17c (by omega) (by omega), h3, h4]
    · have cc := i_nle cc
      rw [n2_of hN, t_of (by omega)] at cc
      have hc2 : c < 2 * n := by omega
      have nx : ∀ y3 y4, y3 = lowF n N a l (c + 1) → y4 = highF n N a l (c + 1) → Pc (mX7_layCost_b165 135 (mX7_layCost_l36 135 fuel) (Int32.ofNat a) (Int32.ofNat l) y3 y4 (Int32.ofNat c) N) (fun q => q.1 = wr (wr N (135 + 13) (17 * a + l) (lowF n N a l (2 * n))) (135 + 14) (17 * a + l) (highF n N a l (2 * n))) := by
        intro y3 y4 q3 q4
        unfold mX7_layCost_b165
        refine Pc.b (fun x ex => ?_)
        have e : x = Int32.ofNat (c + 1) := by rw [ex]; exact (Int32.ofNat_add c 1).symm
        rw [e]
        exact IH (c + 1) y3 y4 q3 q4 (by omega)
      have el : lowF n N a l (c + 1) = if cnb N a c = true then imin (lowF n N a l c) (cst N a l c + rd N (135 + 13) (17 * (a ||| 2 ^ (c / 2)) + c)) else lowF n N a l c := rfl
      have eh : highF n N a l (c + 1) = if cnb N a c = true then imax (highF n N a l c) (cst N a l c + rd N (135 + 14) (17 * (a ||| 2 ^ (c / 2)) + c)) else highF n N a l c := rfl
      rw [ix16c (by omega) (by omega)]
      refine Pc.k (fun _ => Pc.i (fun q => ?_) (fun q => Pc.b (fun x6 e6 => ?_)))
      · have ho : ¬ cnb N a c = true := by
          unfold cnb
          rw [decide_eq_true q]; decide
        refine nx x3 x4 ?_ ?_
        · rw [el, if_neg ho]; exact h3
        · rw [eh, if_neg ho]; exact h4
      · have ho : cnb N a c = true := by
          unfold cnb
          rw [decide_eq_false q]; rfl
        have hz := z_set n hn a ha (c / 2) (by omega) ((hL.1 c hc2).2 ho)
        rw [f_half c (by omega)] at e6
        subst e6
        have b117 : ∀ v : Int32, cstO N (Int32.ofNat a) (Int32.ofNat l) (Int32.ofNat c) = some v → Pc (mX7_layCost_b117 135 (mX7_layCost_l36 135 fuel) (Int32.ofNat a) (Int32.ofNat l) x3 x4 (Int32.ofNat c) (Int32.ofNat (c / 2)) v N) (fun q => q.1 = wr (wr N (135 + 13) (17 * a + l) (lowF n N a l (2 * n))) (135 + 14) (17 * a + l) (highF n N a l (2 * n))) := by
          intro v hv
          have ev : cst N a l c = v := by unfold cst; rw [hv]; rfl
          unfold mX7_layCost_b117
          rw [f_or a (by omega) (c / 2) (by omega)]
          refine Pc.b (fun x8 e8 => ?_)
          subst e8
          rw [ix17c (by omega) (by omega)]
          refine Pc.k (fun _ => Pc.b (fun y3 e3 => Pc.k (fun _ => Pc.b (fun y4 e4 => nx y3 y4 ?_ ?_))))
          · rw [el, if_pos ho, e3, h3, ev]
          · rw [eh, if_pos ho, e4, h4, ev]
        refine Pc.i (fun e => b117 0 ?_) (fun e => Pc.c (Pc.self _) (fun r22 e22 => Pc.k (fun _ => Pc.c (Pc.self _) (fun r26 e26 => b117 r26 ?_))))
        · unfold cstO ite2
          rw [if_pos e]
        · unfold cstO ite2
          rw [← f_half c (by omega)] at e26
          rw [if_neg e, e22]
          show mX7_costBehind _ _ _ _ _ _ _ _ = _
          rw [ix16c (by omega) (by omega)]
          exact e26
theorem pc_layCost (hN : NM n m N) (ha : a < 2 ^ n) (hl : l ≤ 16) (hL : LOp n N0 N a (2 * n)) : Pc (mX7_layCost 135 (Int32.ofNat a) (Int32.ofNat l) N) (fun q => q.1 = wr (wr N (135 + 13) (17 * a + l) (lowF n N a l (2 * n))) (135 + 14) (17 * a + l) (highF n N a l (2 * n))) := by
  have hn := hN.2.1
  have hp := z_pow n hn
  unfold mX7_layCost mX7_layCost_b15 mX7_layCost_b31
  rw [pl_full hN]
  refine Pc.c (Pc.ok (P := fun r => r = Int32.ofNat (2 ^ n - 1)) rfl) (fun r er => ?_)
  subst er
  refine Pc.i (fun e => ?_) (fun e => ?_)
  · have e2 := o_inj (a := a) (by omega) (by omega) e
    refine Pc.c (Pc.ok (P := fun r => r = Int32.ofNat (2 ^ n - 1)) rfl) (fun r er => ?_)
    subst er
    refine Pc.i (fun _ => lc_in hN ha hl hL 5000 0 _ _ ?_ ?_ (by omega)) (fun z => absurd e z)
    · show _ = if a = 2 ^ n - 1 then _ else _
      rw [if_pos e2]
    · show _ = if a = 2 ^ n - 1 then _ else _
      rw [if_pos e2]
  · have e2 : ¬ a = 2 ^ n - 1 := fun q => e (congrArg Int32.ofNat q)
    refine Pc.c (Pc.ok (P := fun r => r = Int32.ofNat (2 ^ n - 1)) rfl) (fun r er => ?_)
    subst er
    refine Pc.i (fun z => absurd z e) (fun _ => lc_in hN ha hl hL 5000 0 _ _ ?_ ?_ (by omega))
    · show _ = if a = 2 ^ n - 1 then _ else _
      rw [if_neg e2]
    · show _ = if a = 2 ^ n - 1 then _ else _
      rw [if_neg e2]
/-- a cost written -/
theorem CBx.put {L H : Int32} {k1 k2 j1 j2 : Nat} (h : CBx n m N0 N) (h1 : k1 = 148 ∨ k1 = 149) (h2 : k2 = 148 ∨ k2 = 149) : CBx n m N0 (wr (wr N k1 j1 L) k2 j2 H) := by
  have e : ∀ k j, k ≠ 148 → k ≠ 149 → rd (wr (wr N k1 j1 L) k2 j2 H) k j = rd N k j := fun k j q1 q2 => by rw [rd_wk (by omega), rd_wk (by omega)]
  refine ⟨⟨(e _ _ (by decide) (by decide)).trans h.1.1, h.1.2.1, (e _ _ (by decide) (by decide)).trans h.1.2.2.1, h.1.2.2.2⟩, (funext (fun j => e 136 j (by decide) (by decide)) : row 136 _ = row 136 N).trans h.2.1, h.2.2.1.of (fun _ _ _ _ => e _ _ (by decide) (by decide)) (fun _ _ => rfl), fun a c ha hc => ?_⟩
  rw [e _ _ (by decide) (by decide)]
  exact h.2.2.2 a c ha hc
theorem ls_in (ha : a < 2 ^ n) {ih67 : Int32 → Mem → Option (Mem × Unit)} (H : ∀ N, CBx n m N0 N → CLa n m N a → Pc (ih67 (Int32.ofNat a + (-1 : Int32)) N) P) : ∀ (fuel l : Nat) (N : Mem), CBx n m N0 N → CLa n m N (a + 1) → (a &&& m = m → ∀ l', l' < l → VL n a l' → CLp n N a l') → l ≤ 17 → Pc (mX7_layCosts_l73 135 ih67 fuel (Int32.ofNat a) (Int32.ofNat l) N) P := by
  intro fuel
  induction fuel with
  | zero => intro l N _ _ _ _ q e; cases e
  | succ fuel IH =>
    intro l N hC hA hI hl
    have hN := hC.1
    have hn := hN.2.1
    have hp := z_pow n hn
    show Pc (mX7_layCosts_b73 135 ih67 (mX7_layCosts_l73 135 ih67 fuel) (Int32.ofNat a) (Int32.ofNat l) N) P
    have fin : (a &&& m = m → ∀ l', VL n a l' → CLp n N a l') → Pc (mX7_layCosts_b127 135 ih67 (Int32.ofNat a) N) P := by
      intro h
      unfold mX7_layCosts_b127
      refine Pc.b (fun x ex => ?_)
      rw [ex]
      refine H N hC (fun b hb hb2 hb3 => ?_)
      by_cases e : b = a
      · subst e; exact h hb3
      · exact hA b (by omega) hb2 hb3
    have nx : ∀ M', CBx n m N0 M' → CLa n m M' (a + 1) → (a &&& m = m → ∀ l', l' < l + 1 → VL n a l' → CLp n M' a l') → l < 17 → Pc (mX7_layCosts_b121 135 ih67 (mX7_layCosts_l73 135 ih67 fuel) (Int32.ofNat a) (Int32.ofNat l) M') P := by
      intro M' hC' hA' hI' hl'
      unfold mX7_layCosts_b121
      refine Pc.b (fun x ex => ?_)
      have e : x = Int32.ofNat (l + 1) := by rw [ex]; exact (Int32.ofNat_add l 1).symm
      rw [e]
      exact IH (l + 1) M' hC' hA' hI' (by omega)
    unfold mX7_layCosts_b73
    refine Pc.i (fun c => fin (fun hb l' hv => hI hb l' ?_ hv)) (fun c => ?_)
    · have c := i_le.mp c
      rw [t_of (by omega), show ((17 : Int32)).toInt = 17 from rfl] at c
      rcases hv with e | ⟨e, _⟩ <;> omega
    have c := i_nle c
    rw [t_of (by omega), show ((17 : Int32)).toInt = 17 from rfl] at c
    rw [pl_behind hN (a := a) (by omega)]
    refine Pc.c (Pc.ok (P := fun r => r = if a &&& m = m then 1 else 0) rfl) (fun r er => ?_)
    by_cases hb : a &&& m = m
    rotate_left
    · rw [if_neg hb] at er
      subst er
      exact Pc.i (fun _ => fin (fun q => absurd q hb)) (fun q => absurd rfl q)
    rw [if_pos hb] at er
    subst er
    refine Pc.i (fun q => absurd q (by decide)) (fun _ => ?_)
    have hLO := hC.2.2.1 a (by omega) ha hb
    have skip : (¬ VL n a l) → Pc (mX7_layCosts_b121 135 ih67 (mX7_layCosts_l73 135 ih67 fuel) (Int32.ofNat a) (Int32.ofNat l) N) P := by
      intro hv
      refine nx N hC hA (fun _ l' hl' hv' => ?_) (by omega)
      by_cases e : l' = l
      · subst e; exact absurd hv' hv
      · exact hI hb l' (by omega) hv'
    have lay : Pc (mX7_layCosts_b115 135 ih67 (mX7_layCosts_l73 135 ih67 fuel) (Int32.ofNat a) (Int32.ofNat l) N) P := by
      unfold mX7_layCosts_b115
      refine Pc.m (pc_layCost hN ha (by omega) hLO) (fun M21 _ e21 => ?_)
      have e21 : M21 = _ := e21
      have ek : ∀ k j, k ≠ 148 → k ≠ 149 → rd M21 k j = rd N k j := fun k j q1 q2 => by rw [e21, rd_wk (by omega), rd_wk (by omega)]
      have ej : ∀ j, j ≠ 17 * a + l → rd M21 (135 + 13) j = rd N (135 + 13) j ∧ rd M21 (135 + 14) j = rd N (135 + 14) j := fun j hj => ⟨by rw [e21, rd_wk (by decide), rd_wj hj], by rw [e21, rd_wj hj, rd_wk (by decide)]⟩
      have ef := fold_of (N' := M21) (l := l) hn ha hLO (fun j => ek _ j (by decide) (by decide)) (fun j => ek _ j (by decide) (by decide)) (fun j => ek _ j (by decide) (by decide)) (fun b c hb hc => ej _ (by omega))
      refine nx M21 (by rw [e21]; exact hC.put (Or.inl rfl) (Or.inr rfl)) (fun b hb1 hb2 hb3 l' hv' => ?_) (fun _ l' hl' hv' => ?_) (by omega)
      · have hl16 : l' ≤ 16 := by rcases hv' with e | ⟨e, _⟩ <;> omega
        exact (hA b hb1 hb2 hb3 l' hv').of hn hb2 (hC.2.2.1 b (by omega) hb2 hb3) (fun j => ek _ j (by decide) (by decide)) (fun j => ek _ j (by decide) (by decide)) (fun j => ek _ j (by decide) (by decide)) (fun b' c' h1 h2 => ej _ (by omega)) (ej _ (by omega))
      · by_cases e : l' = l
        · subst e
          constructor
          · rw [ef.1, e21, rd_wk (by decide), rd_we]
          · rw [ef.2, e21, rd_we]
        · exact (hI hb l' (by omega) hv').of hn ha hLO (fun j => ek _ j (by decide) (by decide)) (fun j => ek _ j (by decide) (by decide)) (fun j => ek _ j (by decide) (by decide)) (fun b' c' h1 h2 => ej _ (by omega)) (ej _ (by omega))
    refine Pc.i (fun e => lay) (fun e => Pc.k (fun _ => Pc.i (fun c2 => skip (fun hv => ?_)) (fun c2 => ?_)))
    · have c2 := i_le.mp c2
      rw [n2_of hN, t_of (by omega)] at c2
      rcases hv with q | ⟨q, _⟩
      · exact e (by rw [q]; rfl)
      · omega
    · have c2 := i_nle c2
      rw [n2_of hN, t_of (by omega)] at c2
      rw [f_half l (by omega)]
      unfold mX7_has
      by_cases t : a.testBit (l / 2) = true
      · have t2 := (f_has a (by omega) (l / 2) (by omega)).mpr t
        refine Pc.c (Q := fun r => r = 1) (Pc.i (fun _ => Pc.ok rfl) (fun z => absurd t2 z)) (fun r er => ?_)
        subst er
        exact Pc.i (fun q => absurd q (by decide)) (fun _ => lay)
      · have t2 := mt (f_has a (by omega) (l / 2) (by omega)).mp t
        refine Pc.c (Q := fun r => r = 0) (Pc.i (fun z => absurd z t2) (fun _ => Pc.ok rfl)) (fun r er => ?_)
        subst er
        refine Pc.i (fun _ => skip (fun hv => ?_)) (fun q => absurd rfl q)
        rcases hv with q | ⟨_, q⟩
        · exact e (by rw [q]; rfl)
        · exact t q
theorem ls_out : ∀ (fuel a : Nat) (x : Int32) (N : Mem), x.toInt = (a : Int) - 1 → a ≤ 2 ^ n → CBx n m N0 N → CLa n m N a → Pc (mX7_layCosts_l67 135 fuel x N) (fun q => CBx n m N0 q.1 ∧ CLa n m q.1 0) := by
  intro fuel
  induction fuel with
  | zero => intro a x N _ _ _ _ q e; cases e
  | succ fuel IH =>
    intro a x N hx ha hC hA
    have hp := z_pow n hC.1.2.1
    show Pc (mX7_layCosts_b67 135 (mX7_layCosts_l67 135 fuel) x N) _
    unfold mX7_layCosts_b67
    refine Pc.i (fun c => ?_) (fun c => ?_)
    · have c := i_lt.mp c
      rw [show ((0 : Int32)).toInt = 0 from rfl] at c
      have : a = 0 := by omega
      subst this
      exact Pc.ok ⟨hC, hA⟩
    · have c := i_nlt c
      rw [show ((0 : Int32)).toInt = 0 from rfl] at c
      obtain ⟨b, rfl⟩ : ∃ b, a = b + 1 := ⟨a - 1, by omega⟩
      have ex : x = Int32.ofNat b := by
        have := o_of (x := x) (by omega)
        rw [this]; congr 1; omega
      subst ex
      refine ls_in (n := n) (m := m) (N0 := N0) (by omega) (fun M' h' A' => ?_) 5000 0 N hC hA (fun _ l' h => absurd h (by omega)) (by omega)
      refine IH b _ M' ?_ (by omega) h' A'
      rw [i_add (by rw [t_of (by omega), show ((-1 : Int32)).toInt = -1 from rfl]; omega) (by rw [t_of (by omega), show ((-1 : Int32)).toInt = -1 from rfl]; omega), t_of (by omega)]
      rfl
/-- the gauges -/
def GBp (n : Nat) (N0 N : Mem) (a c : Nat) : Prop := ∀ b c', b < 2 ^ n → c' < 2 * n → (b < a ∨ (b = a ∧ c' < c)) → GOk N0 b c' (rd N (135 + 11) (16 * b + c'))
theorem lg_in (ha : a < 2 ^ n) {ih6 : Int32 → Mem → Option (Mem × Unit)} (H : ∀ N, OKm (w2 g) N → NM n m N → row 136 N = row 136 N0 → LOa n m N0 N 0 → GBp n N0 N (a + 1) 0 → Pc (ih6 (Int32.ofNat (a + 1)) N) P) : ∀ (fuel c : Nat) (N : Mem), OKm (w2 g) N → NM n m N → row 136 N = row 136 N0 → LOa n m N0 N 0 → GBp n N0 N a c → c ≤ 2 * n → Pc (mX7_layCosts_l16 135 ih6 fuel (Int32.ofNat a) (Int32.ofNat c) N) P := by
  intro fuel
  induction fuel with
  | zero => intro c N _ _ _ _ _ _ q e; cases e
  | succ fuel IH =>
    intro c N hM hN hR hL hG hc
    have hn := hN.2.1
    have hp := z_pow n hn
    show Pc (mX7_layCosts_b16 135 ih6 (mX7_layCosts_l16 135 ih6 fuel) (Int32.ofNat a) (Int32.ofNat c) N) P
    unfold mX7_layCosts_b16
    refine Pc.k (fun _ => Pc.i (fun cc => Pc.b (fun x ex => ?_)) (fun cc => ?_))
    · have e : x = Int32.ofNat (a + 1) := by rw [ex]; exact (Int32.ofNat_add a 1).symm
      have cc := i_le.mp cc
      rw [n2_of hN, t_of (by omega)] at cc
      rw [e]
      refine H N hM hN hR hL (fun b c' hb hc' hq => hG b c' hb hc' ?_)
      omega
    · have cc := i_nle cc
      rw [n2_of hN, t_of (by omega)] at cc
      rw [f_mod c (by omega), f_half c (by omega)]
      refine Pc.m ((Pc.self _).and (fr (R := fun _ => True) hM (fun g' h' => Sf.mono (sX7_gaugeOf h' (x1 := Int32.ofNat (c / 2)) (x2 := Int32.ofNat (c % 2)) (x3 := Int32.ofNat a) (by rw [t_of (by omega)]; omega) (by rw [t_of (by omega)]; omega) (by rw [t_of (by omega)]; omega)) (fun q hq => ⟨hq.1, trivial⟩))).toPc) (fun M34 r33 p => ?_)
      obtain ⟨ep, h34, k34, _⟩ := p
      have h34 : OKm (w2 g) M34 := h34
      have k34 : Keep N M34 := k34
      refine Pc.k (fun _ => Pc.b (fun M37 e37 => Pc.b (fun x ex => ?_)))
      have e : x = Int32.ofNat (c + 1) := by rw [ex]; exact (Int32.ofNat_add c 1).symm
      rw [e]
      rw [ix16c (by omega) (by omega)] at e37
      have kk : ∀ k j, k = 136 ∨ k = 145 ∨ k = 146 → rd M34 k j = rd N k j := fun k j hk => k34.1 k j (by unfold W1; omega)
      have k37 : ∀ k j, k = 136 ∨ k = 145 → rd M37 k j = rd N k j := fun k j hk => by rw [e37, rd_wk (by omega)]; exact kk k j (by omega)
      refine IH (c + 1) M37 (by rw [e37]; exact h34.put (b := bT) rfl (i_rng _)) ⟨(k37 _ _ (by omega)).trans hN.1, hn, (k37 _ _ (by omega)).trans hN.2.2.1, hN.2.2.2⟩ ((funext (fun j => k37 136 j (by omega)) : row 136 M37 = row 136 N).trans hR) (hL.of (fun _ _ _ _ => k37 _ _ (by omega)) (fun b' _ => by rw [e37]; exact k34.2 _ _)) (fun b c' hb hc' hq => ?_) (by omega)
      by_cases e : b = a ∧ c' = c
      · obtain ⟨rfl, rfl⟩ := e
        exact ⟨N, (M34, r33), hR, ep, by rw [e37]; exact rd_we⟩
      · rw [e37, rd_wj (by omega), kk _ _ (by omega)]
        exact hG b c' hb hc' (by omega)
theorem lg_out : ∀ (fuel a : Nat) (N : Mem), OKm (w2 g) N → NM n m N → row 136 N = row 136 N0 → LOa n m N0 N 0 → GBp n N0 N a 0 → a ≤ 2 ^ n → Pc (mX7_layCosts_l6 135 fuel (Int32.ofNat a) N) (fun q => CBx n m N0 q.1 ∧ CLa n m q.1 0) := by
  intro fuel
  induction fuel with
  | zero => intro a N _ _ _ _ _ _ q e; cases e
  | succ fuel IH =>
    intro a N hM hN hR hL hG ha
    have hn := hN.2.1
    have hp := z_pow n hn
    show Pc (mX7_layCosts_b6 135 (mX7_layCosts_l6 135 fuel) (Int32.ofNat a) N) _
    unfold mX7_layCosts_b6
    rw [pl_full hN]
    refine Pc.c (Pc.ok (P := fun r => r = Int32.ofNat (2 ^ n - 1)) rfl) (fun r er => ?_)
    subst er
    refine Pc.i (fun c => ?_) (fun c => ?_)
    · have c := i_lt.mp c
      rw [t_of (by omega), t_of (by omega)] at c
      refine Pc.c (Pc.ok (P := fun r => r = Int32.ofNat (2 ^ n - 1)) rfl) (fun r er => ?_)
      subst er
      exact ls_out 5000 (2 ^ n) _ N (by rw [t_of (by omega)]; omega) (by omega) ⟨hN, hR, hL, fun b c' hb hc' => hG b c' hb hc' (by omega)⟩ (fun b h1 h2 => by omega)
    · have c := i_nlt c
      rw [t_of (by omega), t_of (by omega)] at c
      exact lg_in (g := g) (n := n) (m := m) (N0 := N0) (by omega) (fun M' h1 h2 h3 h4 h5 => IH (a + 1) M' h1 h2 h3 h4 h5 (by omega)) 5000 0 N hM hN hR hL hG (by omega)
theorem pc_layCosts (h : OKm g N) (hN : NM n m N) : Pc (mX7_layCosts 135 N) (fun q => CBx n m N q.1 ∧ CLa n m q.1 0 ∧ Pl g n m q.1 ∧ Ald n m q.1 0) := by
  have hp := z_pow n hN.2.1
  have key : Pc (mX7_layCosts 135 N) (fun q => CBx n m N q.1 ∧ CLa n m q.1 0) := by
    unfold mX7_layCosts
    refine Pc.m (pc_layOrders h hN) (fun M3 _ p => ?_)
    obtain ⟨h3, N3, R3, L3, _⟩ := p
    exact lg_out (g := g) 5000 0 M3 h3 N3 R3 L3 (fun b c' hb hc' hq => by omega) (by omega)
  exact (key.and (sX7_layCosts' h hN).toPc).mono (fun q h => ⟨h.1.1, h.1.2, h.2.1, h.2.2⟩)
end CO2
end
/-! part 60zzm.couple -/
section
/-! the class's tables against the reference's -/
def lrl (x y : Int32) (B : Nat) : Prop := (x = -1 ∧ y.toInt = 1000000) ∨ (0 ≤ x.toInt ∧ x.toInt ≤ 297 * (B : Int) ∧ y = x)
def hrl (x y : Int32) (B : Nat) : Prop := (x = -1 ∧ -1000000 ≤ y.toInt ∧ y.toInt ≤ -1000000 + 297 * (B : Int)) ∨ (0 ≤ x.toInt ∧ x.toInt ≤ 297 * (B : Int) ∧ y = x)
/-- the prices of the steps behind a last one -/
def PRC (k : Nat) (M N : Mem) (a l : Nat) (lc lg : Int32) : Prop := ∀ c, c < 2 * nb k M → op M a c = true → ∀ p, mX1_priceBetween k lc lg (Int32.ofNat c) (rd M (110 + 20) (16 * a + c)) M = some p → p = cst N a l c
section CU
variable {g : Gm} {k m a b c l : Nat} {M N N0 : Mem} {lc lg : Int32}
theorem cu_op (hL : LI k m M 256) (hB : PB k M (row 136 N0)) (hO : LOa (nb k M) m N0 N 0) (ha : a < 256) (hr : rc M a) (hc : c < 2 * nb k M) : op M a c = cnb N a c := by
  have hn := hL.2.2.1 a ha hr
  have hT := hL.1 a hn.1 (hL.2.2.2.1 a ha ha hr).1
  obtain ⟨⟨N1, q1, e1, e2, e3⟩, _⟩ := (hO a (by omega) hn.1 hn.2).1 c hc
  have hB1 : PB k M (row 136 N1) := by rw [e1]; exact hB
  cases ho : op M a c with
  | true =>
    exact (e3.mpr (((hT.1 c hc).1 ho).1 N1 hB1 q1 e2)).symm
  | false =>
    obtain ⟨v, hv, hV⟩ := (hT.1 c hc).2 ho
    cases hq : cnb N a c with
    | false => rfl
    | true => exact absurd ((hV N1 hB1 q1 e2).symm.trans (e3.mp hq)) hv
theorem op_hi (hL : LI k m M 256) (ha : a < 256) (hr : rc M a) (hc : 2 * nb k M ≤ c) : op M a c = false := by
  have hn := hL.2.2.1 a ha hr
  exact (hL.1 a hn.1 (hL.2.2.2.1 a ha ha hr).1).2 c hc
theorem csum_tr {x0 : Int64} {o : Nat → Bool} {t : Nat → Int64} {n : Nat} : ∀ d, (∀ c, n ≤ c → c < n + d → o c = false) → csum x0 o t (n + d) = csum x0 o t n := by
  intro d
  induction d with
  | zero => intro _; rfl
  | succ d IH =>
    intro h
    show (if o (n + d) = true then csum x0 o t (n + d) + t (n + d) else csum x0 o t (n + d)) = _
    rw [h (n + d) (by omega) (by omega), if_neg (by decide)]
    exact IH (fun c h1 h2 => h c h1 (by omega))
theorem cu_cnt (hL : LI k m M 256) (n8 : nb k M ≤ 8) (hB : PB k M (row 136 N0)) (hO : LOa (nb k M) m N0 N 0) (hC : CN k M) : ∀ z a, 2 ^ nb k M - a ≤ z → a < 256 → rc M a → rl M (110 + 19) a = rl N (135 + 12) a := by
  intro z
  induction z with
  | zero =>
    intro a hz ha hr
    have := (hL.2.2.1 a ha hr).1
    omega
  | succ z IH =>
    intro a hz ha hr
    have hn := hL.2.2.1 a ha hr
    rw [hC a ha hr, (hO a (by omega) hn.1 hn.2).2]
    have e16 : 16 = 2 * nb k M + (16 - 2 * nb k M) := by omega
    rw [e16, csum_tr _ (fun c h1 h2 => op_hi hL ha hr h1)]
    refine csum_eq _ (fun c hc => cu_op hL hB hO ha hr hc) (fun c hc ho => ?_)
    have ho' : op M a c = true := by rw [cu_op hL hB hO ha hr hc]; exact ho
    have st := hL.step n8 ha hr (by omega) ho'
    exact IH _ (by omega) st.2.2.2.2.1 st.2.2.2.2.2
theorem cu_gauge (hL : LI k m M 256) (hB : PB k M (row 136 N0)) (hG : GOa (nb k M) N0 N) (ha : a < 256) (hr : rc M a) (hc : c < 2 * nb k M) (ho : op M a c = true) : rd M (110 + 20) (16 * a + c) = rd N (135 + 11) (16 * a + c) := by
  have hn := hL.2.2.1 a ha hr
  have hT := hL.1 a hn.1 (hL.2.2.2.1 a ha ha hr).1
  obtain ⟨N1, q1, e1, e2, e3⟩ := hG a c hn.1 hc
  have hB1 : PB k M (row 136 N1) := by rw [e1]; exact hB
  rw [e3]
  exact (((hT.1 c hc).1 ho).2.1 N1 hB1 q1 e2).symm
theorem cu_price0 : PRC k M N a 16 (-1) lg := by
  intro c _ _ p hp
  have e : mX1_priceBetween k (-1) lg (Int32.ofNat c) (rd M (110 + 20) (16 * a + c)) M = some 0 := rfl
  rw [e] at hp
  cases hp
  rfl
theorem cu_price (hP : PR k M (row 136 N)) (n8 : nb k M ≤ 8) (hK : OKm g N) (hl : l < 2 * nb k M) (ha : a < 256) (tb : a.testBit (l / 2) = true) (hlg : lg = rd N (135 + 11) (16 * (a - 2 ^ (l / 2)) + l)) (hg : ∀ c, c < 2 * nb k M → op M a c = true → rd M (110 + 20) (16 * a + c) = rd N (135 + 11) (16 * a + c)) : PRC k M N a l (Int32.ofNat l) lg := by
  intro c hc ho p hp
  have hn : (rd N 136 0).toInt = (nb k M : Int) := hP.pb.bn
  obtain ⟨v, ev, _⟩ := cst_ok (a := a) (l := l) (c := c) hK ha (by omega) (by omega)
  have ec : cst N a l c = v := by unfold cst; rw [ev]; rfl
  rw [ec]
  have ev0 := ev
  unfold cstO at ev
  have hl16 : ¬ Int32.ofNat l = (16 : Int32) := fun z => by
    have := o_inj (a := l) (b := 16) (by omega) (by omega) z
    omega
  have e2 := ite_f hl16 ev
  obtain ⟨r22, e22, e3⟩ := cap_s e2
  rw [f_mod l (by omega), f_half l (by omega), f_mod c (by omega), f_half c (by omega), ix16c ha (by omega)] at e3
  have no := n_off a ha (l / 2) (by omega) tb
  have hs : a - 2 ^ (l / 2) < 256 := Nat.lt_of_le_of_lt (Nat.sub_le _ _) ha
  have e4 : r22 = lg := by
    unfold mX7_gaugeLast at e22
    rw [f_half l (by omega), f_ox a ha (l / 2) (by omega), if_pos tb] at e22
    have q := (chk_s e22).2
    rw [ix16c hs (by omega)] at q
    rw [hlg]; exact (Option.some.inj q).symm
  rw [e4] at e3
  have h := price_R (k := k) (M := M) (N := N) (b1 := l / 2) (s1 := l % 2) (b2 := c / 2) (s2 := c % 2) (g1 := lg) (g2 := rd N (135 + 11) (16 * a + c)) hP hn (by omega) (by omega) (by omega) (by omega)
  rw [show 2 * (l / 2) + l % 2 = l by omega, show 2 * (c / 2) + c % 2 = c by omega] at h
  rw [hg c hc ho] at hp
  exact h p v hp e3
/-- a step's cost, by the class -/
theorem pc_thr {x6 : Int32} (ha : a < 256) (hc : c < 16) (hs : op M a c = true → (a ||| 2 ^ (c / 2)) < 256) : Pc (mX3_costThrough 110 k (Int32.ofNat a) lc lg (Int32.ofNat c) x6 M) (fun t => (op M a c = false ∧ t = -1) ∨ (op M a c = true ∧ (if x6 = 0 then rd M (110 + 22) (16 * (a ||| 2 ^ (c / 2)) + c) else rd M (110 + 21) (16 * (a ||| 2 ^ (c / 2)) + c)) = -1 ∧ t = -1) ∨ (op M a c = true ∧ ¬ (if x6 = 0 then rd M (110 + 22) (16 * (a ||| 2 ^ (c / 2)) + c) else rd M (110 + 21) (16 * (a ||| 2 ^ (c / 2)) + c)) = -1 ∧ ∃ p, mX1_priceBetween k lc lg (Int32.ofNat c) (rd M (110 + 20) (16 * a + c)) M = some p ∧ t = (if x6 = 0 then rd M (110 + 22) (16 * (a ||| 2 ^ (c / 2)) + c) else rd M (110 + 21) (16 * (a ||| 2 ^ (c / 2)) + c)) + p)) := by
  unfold mX3_costThrough
  rw [pc_isOpen ha hc, pc_setBehind ha hc]
  refine Pc.c (Pc.ok (P := fun r => r = if op M a c = true then 1 else 0) rfl) (fun r2 e2 => Pc.i (fun c2 => ?_) (fun c2 => ?_))
  · refine Pc.ok (Or.inl ⟨?_, rfl⟩)
    cases ho : op M a c with
    | false => rfl
    | true => rw [ho, if_pos rfl] at e2; rw [e2] at c2; exact absurd c2 (by decide)
  · have ho : op M a c = true := by
      cases ho : op M a c with
      | true => rfl
      | false => rw [ho, if_neg (by decide)] at e2; exact absurd e2 c2
    have hs := hs ho
    refine Pc.c (Pc.ok (P := fun r => r = Int32.ofNat (a ||| 2 ^ (c / 2))) rfl) (fun r6 e6 => Pc.b (fun x7 e7 => ?_))
    have e7' : x7.toNatClampNeg = 16 * (a ||| 2 ^ (c / 2)) + c := by rw [e7, e6]; exact f_15c hs hc
    rw [e7']
    have b48 : ∀ y : Int32, Pc (mX3_costThrough_b48 110 k M (Int32.ofNat a) lc lg (Int32.ofNat c) y) (fun t => (y = -1 ∧ t = -1) ∨ (¬ y = -1 ∧ ∃ p, mX1_priceBetween k lc lg (Int32.ofNat c) (rd M (110 + 20) (16 * a + c)) M = some p ∧ t = y + p)) := by
      intro y
      unfold mX3_costThrough_b48
      rw [f_15c ha hc]
      exact Pc.i (fun z => Pc.ok (Or.inl ⟨z, rfl⟩)) (fun z => Pc.k (fun _ => Pc.c (Pc.self _) (fun p ep => Pc.ok (Or.inr ⟨z, p, ep, rfl⟩))))
    refine Pc.i (fun z => Pc.k (fun _ => (b48 _).mono (fun t ht => ?_))) (fun z => Pc.k (fun _ => (b48 _).mono (fun t ht => ?_)))
    · rw [if_pos z]
      rcases ht with ⟨q1, q2⟩ | ⟨q1, q2⟩
      · exact Or.inr (Or.inl ⟨ho, q1, q2⟩)
      · exact Or.inr (Or.inr ⟨ho, q1, q2⟩)
    · rw [if_neg z]
      rcases ht with ⟨q1, q2⟩ | ⟨q1, q2⟩
      · exact Or.inr (Or.inl ⟨ho, q1, q2⟩)
      · exact Or.inr (Or.inr ⟨ho, q1, q2⟩)
/-- what is needed of a set to compare its costs -/
def CUa (k m : Nat) (M N : Mem) (a l : Nat) (lc lg : Int32) : Prop := PRC k M N a l lc lg ∧ (∀ c, c < 2 * nb k M → op M a c = true → 0 ≤ (cst N a l c).toInt ∧ (cst N a l c).toInt ≤ 297) ∧ (∀ c, c < 2 * nb k M → op M a c = cnb N a c) ∧ (∀ c, 2 * nb k M ≤ c → op M a c = false) ∧ (∀ c, c < 2 * nb k M → op M a c = true → (a ||| 2 ^ (c / 2)) < 256 ∧ lrl (rd M (110 + 21) (16 * (a ||| 2 ^ (c / 2)) + c)) (rd N (135 + 13) (17 * (a ||| 2 ^ (c / 2)) + c)) (cntz a (nb k M) - 1) ∧ hrl (rd M (110 + 22) (16 * (a ||| 2 ^ (c / 2)) + c)) (rd N (135 + 14) (17 * (a ||| 2 ^ (c / 2)) + c)) (cntz a (nb k M) - 1) ∧ 1 ≤ cntz a (nb k M))
theorem low_l (h : CUa k m M N a l lc lg) (n8 : nb k M ≤ 8) (ha : a < 256) (hz : cntz a (nb k M) ≤ 8) : ∀ (fuel c : Nat) (x6 : Int32), c ≤ 16 → lrl x6 (lowF (nb k M) N a l (min c (2 * nb k M))) (cntz a (nb k M)) → Pc (mX3_costOnward_l16 110 k M fuel (Int32.ofNat a) lc lg 1 x6 (Int32.ofNat c)) (fun r => lrl r (lowF (nb k M) N a l (2 * nb k M)) (cntz a (nb k M))) := by
  obtain ⟨hP, hv, ho1, ho2, hK⟩ := h
  intro fuel
  induction fuel with
  | zero => intro c x6 _ _ q e; cases e
  | succ fuel IH =>
    intro c x6 hc hx
    show Pc (mX3_costOnward_b16 110 k M (mX3_costOnward_l16 110 k M fuel) (Int32.ofNat a) lc lg 1 x6 (Int32.ofNat c)) _
    unfold mX3_costOnward_b16 mX3_costOnward_b66 mX3_costOnward_b70 mX3_costOnward_b71
    have tc : (Int32.ofNat c).toInt = (c : Int) := t_of (by omega)
    have n16 : ((16 : Int32)).toInt = 16 := rfl
    have nm1 : ((-1 : Int32)).toInt = -1 := rfl
    refine Pc.i (fun c1 => Pc.ok ?_) (fun c1 => ?_)
    · have c1 := i_le.mp c1
      have e : c = 16 := by omega
      subst e
      rw [Nat.min_eq_right (by omega)] at hx
      exact hx
    have c1 := i_nle c1
    have next : ∀ y : Int32, lrl y (lowF (nb k M) N a l (min (c + 1) (2 * nb k M))) (cntz a (nb k M)) → Pc (mX3_costOnward_b88 110 k M (mX3_costOnward_l16 110 k M fuel) (Int32.ofNat a) lc lg 1 y (Int32.ofNat c)) (fun r => lrl r (lowF (nb k M) N a l (2 * nb k M)) (cntz a (nb k M))) := by
      intro y hy
      unfold mX3_costOnward_b88
      refine Pc.b (fun x ex => ?_)
      have e : x = Int32.ofNat (c + 1) := by rw [ex]; exact (Int32.ofNat_add c 1).symm
      rw [e]
      exact IH (c + 1) y (by omega) hy
    have skip : op M a c = false → lowF (nb k M) N a l (min (c + 1) (2 * nb k M)) = lowF (nb k M) N a l (min c (2 * nb k M)) := by
      intro ho
      by_cases q : c < 2 * nb k M
      · rw [Nat.min_eq_left (by omega), Nat.min_eq_left (by omega)]
        show (if cnb N a c = true then _ else _) = _
        rw [← ho1 c q, ho, if_neg (by decide)]; rfl
      · rw [Nat.min_eq_right (by omega), Nat.min_eq_right (by omega)]
    have c2n : op M a c = true → c < 2 * nb k M := fun ho => by
      by_cases q : c < 2 * nb k M
      · exact q
      · rw [ho2 c (by omega)] at ho; cases ho
    have one : ∀ {z : Int32}, (1 : Int32) = 0 → z = z + 1 := fun z => absurd z (by decide)
    refine Pc.c (pc_thr (k := k) (lc := lc) (lg := lg) (x6 := 1) ha (by omega) (fun ho => (hK c (c2n ho) ho).1)) (fun r7 p7 => ?_)
    rw [if_neg (by decide)] at p7
    -- a step that leads to no order
    have dead : r7 = -1 → lrl x6 (lowF (nb k M) N a l (min (c + 1) (2 * nb k M))) (cntz a (nb k M)) → Pc (ite2 (x6 = (-1 : Int32)) (ite2 (r7 = (-1 : Int32)) (mX3_costOnward_b88 110 k M (mX3_costOnward_l16 110 k M fuel) (Int32.ofNat a) lc lg 1 x6 (Int32.ofNat c)) (ite2 ((1 : Int32) = 0) (mX3_costOnward_b88 110 k M (mX3_costOnward_l16 110 k M fuel) (Int32.ofNat a) lc lg 1 x6 (Int32.ofNat c)) (mX3_costOnward_b88 110 k M (mX3_costOnward_l16 110 k M fuel) (Int32.ofNat a) lc lg 1 r7 (Int32.ofNat c)))) (ite2 ((1 : Int32) = 0) (ite2 (r7 ≤ x6) (ite2 (r7 = (-1 : Int32)) (mX3_costOnward_b88 110 k M (mX3_costOnward_l16 110 k M fuel) (Int32.ofNat a) lc lg 1 x6 (Int32.ofNat c)) (ite2 ((0 : Int32) = 0) (mX3_costOnward_b88 110 k M (mX3_costOnward_l16 110 k M fuel) (Int32.ofNat a) lc lg 1 x6 (Int32.ofNat c)) (mX3_costOnward_b88 110 k M (mX3_costOnward_l16 110 k M fuel) (Int32.ofNat a) lc lg 1 r7 (Int32.ofNat c)))) (ite2 (r7 = (-1 : Int32)) (mX3_costOnward_b88 110 k M (mX3_costOnward_l16 110 k M fuel) (Int32.ofNat a) lc lg 1 x6 (Int32.ofNat c)) (ite2 ((1 : Int32) = 0) (mX3_costOnward_b88 110 k M (mX3_costOnward_l16 110 k M fuel) (Int32.ofNat a) lc lg 1 x6 (Int32.ofNat c)) (mX3_costOnward_b88 110 k M (mX3_costOnward_l16 110 k M fuel) (Int32.ofNat a) lc lg 1 r7 (Int32.ofNat c))))) (ite2 (x6 ≤ r7) (ite2 (r7 = (-1 : Int32)) (mX3_costOnward_b88 110 k M (mX3_costOnward_l16 110 k M fuel) (Int32.ofNat a) lc lg 1 x6 (Int32.ofNat c)) (ite2 ((0 : Int32) = 0) (mX3_costOnward_b88 110 k M (mX3_costOnward_l16 110 k M fuel) (Int32.ofNat a) lc lg 1 x6 (Int32.ofNat c)) (mX3_costOnward_b88 110 k M (mX3_costOnward_l16 110 k M fuel) (Int32.ofNat a) lc lg 1 r7 (Int32.ofNat c)))) (ite2 (r7 = (-1 : Int32)) (mX3_costOnward_b88 110 k M (mX3_costOnward_l16 110 k M fuel) (Int32.ofNat a) lc lg 1 x6 (Int32.ofNat c)) (ite2 ((1 : Int32) = 0) (mX3_costOnward_b88 110 k M (mX3_costOnward_l16 110 k M fuel) (Int32.ofNat a) lc lg 1 x6 (Int32.ofNat c)) (mX3_costOnward_b88 110 k M (mX3_costOnward_l16 110 k M fuel) (Int32.ofNat a) lc lg 1 r7 (Int32.ofNat c))))))) (fun r => lrl r (lowF (nb k M) N a l (2 * nb k M)) (cntz a (nb k M))) := by
      intro e7 el
      have nx := next x6 el
      have dd : ∀ {y : Option Int32}, Pc (ite2 (r7 = (-1 : Int32)) (mX3_costOnward_b88 110 k M (mX3_costOnward_l16 110 k M fuel) (Int32.ofNat a) lc lg 1 x6 (Int32.ofNat c)) y) (fun r => lrl r (lowF (nb k M) N a l (2 * nb k M)) (cntz a (nb k M))) := fun {y} => Pc.i (fun _ => nx) (fun z => absurd e7 z)
      exact Pc.i (fun _ => dd) (fun _ => Pc.i (fun _ => Pc.i (fun _ => dd) (fun _ => dd)) (fun _ => Pc.i (fun _ => dd) (fun _ => dd)))
    rcases p7 with ⟨ho, e7⟩ | ⟨ho, hb, e7⟩ | ⟨ho, hb, p, ep, e7⟩
    · exact dead e7 (by rw [skip ho]; exact hx)
    · refine dead e7 ?_
      have q := c2n ho
      have hk := hK c q ho
      have hvv := hv c q ho
      have el : lowF (nb k M) N a l (min (c + 1) (2 * nb k M)) = imin (lowF (nb k M) N a l (min c (2 * nb k M))) (cst N a l c + rd N (135 + 13) (17 * (a ||| 2 ^ (c / 2)) + c)) := by
        rw [Nat.min_eq_left (by omega), Nat.min_eq_left (by omega)]
        show (if cnb N a c = true then imin (lowF (nb k M) N a l c) (cst N a l c + rd N (135 + 13) (17 * (a ||| 2 ^ (c / 2)) + c)) else _) = _
        rw [← ho1 c q, ho, if_pos rfl]
      rw [el]
      generalize lowF (nb k M) N a l (min c (2 * nb k M)) = y at hx
      have hy : (rd N (135 + 13) (17 * (a ||| 2 ^ (c / 2)) + c)).toInt = 1000000 := by
        rcases hk.2.1 with ⟨_, q2⟩ | ⟨q1, _⟩
        · exact q2
        · rw [hb, nm1] at q1; omega
      have hs := i_add (a := cst N a l c) (b := rd N (135 + 13) (17 * (a ||| 2 ^ (c / 2)) + c)) (by omega) (by omega)
      have hle : y.toInt ≤ 1000000 := by
        rcases hx with ⟨_, q2⟩ | ⟨q1, q2, q3⟩
        · omega
        · rw [q3]; omega
      unfold imin
      rw [if_neg (fun z => by have z := i_lt.mp z; omega)]
      exact hx
    · have q := c2n ho
      have hk := hK c q ho
      have hvv := hv c q ho
      have epc := hP c q ho p ep
      rw [← epc] at hvv
      have hb2 : 0 ≤ (rd M (110 + 21) (16 * (a ||| 2 ^ (c / 2)) + c)).toInt ∧ (rd M (110 + 21) (16 * (a ||| 2 ^ (c / 2)) + c)).toInt ≤ 297 * ((cntz a (nb k M) - 1 : Nat) : Int) ∧ rd N (135 + 13) (17 * (a ||| 2 ^ (c / 2)) + c) = rd M (110 + 21) (16 * (a ||| 2 ^ (c / 2)) + c) := by
        rcases hk.2.1 with ⟨q1, _⟩ | h
        · exact absurd q1 hb
        · exact h
      have et := i_add (a := rd M (110 + 21) (16 * (a ||| 2 ^ (c / 2)) + c)) (b := p) (by omega) (by omega)
      rw [← e7] at et
      have r7n : ¬ r7 = -1 := fun z => by rw [z, nm1] at et; omega
      have ey : cst N a l c + rd N (135 + 13) (17 * (a ||| 2 ^ (c / 2)) + c) = r7 := by
        rw [← epc, hb2.2.2, e7]; exact Int32.add_comm _ _
      have el : lowF (nb k M) N a l (min (c + 1) (2 * nb k M)) = imin (lowF (nb k M) N a l (min c (2 * nb k M))) r7 := by
        rw [Nat.min_eq_left (by omega), Nat.min_eq_left (by omega)]
        show (if cnb N a c = true then imin (lowF (nb k M) N a l c) (cst N a l c + rd N (135 + 13) (17 * (a ||| 2 ^ (c / 2)) + c)) else _) = _
        rw [← ho1 c q, ho, if_pos rfl, ey]
      have good : lrl r7 r7 (cntz a (nb k M)) := Or.inr ⟨by omega, by omega, rfl⟩
      generalize lowF (nb k M) N a l (min c (2 * nb k M)) = y at hx el
      refine Pc.i (fun z => ?_) (fun z => Pc.i (fun w => absurd w (by decide)) (fun _ => Pc.i (fun w => ?_) (fun w => ?_)))
      · have hy : y.toInt = 1000000 := by
          rcases hx with ⟨_, q2⟩ | ⟨q1, _⟩
          · exact q2
          · rw [z, nm1] at q1; omega
        refine Pc.i (fun w => absurd w r7n) (fun _ => Pc.i (fun w => absurd w (by decide)) (fun _ => next r7 ?_))
        rw [el]
        unfold imin
        rw [if_pos (i_lt.mpr (by omega))]
        exact good
      · have hy := hx.resolve_left (fun w => z w.1)
        have w := i_le.mp w
        refine Pc.i (fun w => absurd w r7n) (fun _ => Pc.i (fun _ => next x6 ?_) (fun w => absurd rfl w))
        rw [el, hy.2.2]
        unfold imin
        rw [if_neg (fun v => by have v := i_lt.mp v; omega)]
        exact Or.inr ⟨hy.1, hy.2.1, rfl⟩
      · have hy := hx.resolve_left (fun w => z w.1)
        have w := i_nle w
        refine Pc.i (fun w => absurd w r7n) (fun _ => Pc.i (fun w => absurd w (by decide)) (fun _ => next r7 ?_))
        rw [el, hy.2.2]
        unfold imin
        rw [if_pos (i_lt.mpr (by omega))]
        exact good
end CU
end
/-! part 60zzn.couple2 -/
section
/-! the greatest costs against the reference's -/
section CUH
variable {g : Gm} {k m a b c l : Nat} {M N N0 : Mem} {lc lg : Int32}
theorem high_l (h : CUa k m M N a l lc lg) (n8 : nb k M ≤ 8) (ha : a < 256) (hz : cntz a (nb k M) ≤ 8) : ∀ (fuel c : Nat) (x6 : Int32), c ≤ 16 → hrl x6 (highF (nb k M) N a l (min c (2 * nb k M))) (cntz a (nb k M)) → Pc (mX3_costOnward_l16 110 k M fuel (Int32.ofNat a) lc lg 0 x6 (Int32.ofNat c)) (fun r => hrl r (highF (nb k M) N a l (2 * nb k M)) (cntz a (nb k M))) := by
  obtain ⟨hP, hv, ho1, ho2, hK⟩ := h
  intro fuel
  induction fuel with
  | zero => intro c x6 _ _ q e; cases e
  | succ fuel IH =>
    intro c x6 hc hx
    show Pc (mX3_costOnward_b16 110 k M (mX3_costOnward_l16 110 k M fuel) (Int32.ofNat a) lc lg 0 x6 (Int32.ofNat c)) _
    unfold mX3_costOnward_b16 mX3_costOnward_b66 mX3_costOnward_b70 mX3_costOnward_b71
    have tc : (Int32.ofNat c).toInt = (c : Int) := t_of (by omega)
    have n16 : ((16 : Int32)).toInt = 16 := rfl
    have nm1 : ((-1 : Int32)).toInt = -1 := rfl
    refine Pc.i (fun c1 => Pc.ok ?_) (fun c1 => ?_)
    · have c1 := i_le.mp c1
      have e : c = 16 := by omega
      subst e
      rw [Nat.min_eq_right (by omega)] at hx
      exact hx
    have c1 := i_nle c1
    have next : ∀ y : Int32, hrl y (highF (nb k M) N a l (min (c + 1) (2 * nb k M))) (cntz a (nb k M)) → Pc (mX3_costOnward_b88 110 k M (mX3_costOnward_l16 110 k M fuel) (Int32.ofNat a) lc lg 0 y (Int32.ofNat c)) (fun r => hrl r (highF (nb k M) N a l (2 * nb k M)) (cntz a (nb k M))) := by
      intro y hy
      unfold mX3_costOnward_b88
      refine Pc.b (fun x ex => ?_)
      have e : x = Int32.ofNat (c + 1) := by rw [ex]; exact (Int32.ofNat_add c 1).symm
      rw [e]
      exact IH (c + 1) y (by omega) hy
    have skip : op M a c = false → highF (nb k M) N a l (min (c + 1) (2 * nb k M)) = highF (nb k M) N a l (min c (2 * nb k M)) := by
      intro ho
      by_cases q : c < 2 * nb k M
      · rw [Nat.min_eq_left (by omega), Nat.min_eq_left (by omega)]
        show (if cnb N a c = true then _ else _) = _
        rw [← ho1 c q, ho, if_neg (by decide)]; rfl
      · rw [Nat.min_eq_right (by omega), Nat.min_eq_right (by omega)]
    have c2n : op M a c = true → c < 2 * nb k M := fun ho => by
      by_cases q : c < 2 * nb k M
      · exact q
      · rw [ho2 c (by omega)] at ho; cases ho
    have one : ∀ {z : Int32}, (1 : Int32) = 0 → z = z + 1 := fun z => absurd z (by decide)
    refine Pc.c (pc_thr (k := k) (lc := lc) (lg := lg) (x6 := 0) ha (by omega) (fun ho => (hK c (c2n ho) ho).1)) (fun r7 p7 => ?_)
    rw [if_pos rfl] at p7
    -- a step that leads to no order
    have dead : r7 = -1 → hrl x6 (highF (nb k M) N a l (min (c + 1) (2 * nb k M))) (cntz a (nb k M)) → Pc (ite2 (x6 = (-1 : Int32)) (ite2 (r7 = (-1 : Int32)) (mX3_costOnward_b88 110 k M (mX3_costOnward_l16 110 k M fuel) (Int32.ofNat a) lc lg 0 x6 (Int32.ofNat c)) (ite2 ((1 : Int32) = 0) (mX3_costOnward_b88 110 k M (mX3_costOnward_l16 110 k M fuel) (Int32.ofNat a) lc lg 0 x6 (Int32.ofNat c)) (mX3_costOnward_b88 110 k M (mX3_costOnward_l16 110 k M fuel) (Int32.ofNat a) lc lg 0 r7 (Int32.ofNat c)))) (ite2 ((0 : Int32) = 0) (ite2 (r7 ≤ x6) (ite2 (r7 = (-1 : Int32)) (mX3_costOnward_b88 110 k M (mX3_costOnward_l16 110 k M fuel) (Int32.ofNat a) lc lg 0 x6 (Int32.ofNat c)) (ite2 ((0 : Int32) = 0) (mX3_costOnward_b88 110 k M (mX3_costOnward_l16 110 k M fuel) (Int32.ofNat a) lc lg 0 x6 (Int32.ofNat c)) (mX3_costOnward_b88 110 k M (mX3_costOnward_l16 110 k M fuel) (Int32.ofNat a) lc lg 0 r7 (Int32.ofNat c)))) (ite2 (r7 = (-1 : Int32)) (mX3_costOnward_b88 110 k M (mX3_costOnward_l16 110 k M fuel) (Int32.ofNat a) lc lg 0 x6 (Int32.ofNat c)) (ite2 ((1 : Int32) = 0) (mX3_costOnward_b88 110 k M (mX3_costOnward_l16 110 k M fuel) (Int32.ofNat a) lc lg 0 x6 (Int32.ofNat c)) (mX3_costOnward_b88 110 k M (mX3_costOnward_l16 110 k M fuel) (Int32.ofNat a) lc lg 0 r7 (Int32.ofNat c))))) (ite2 (x6 ≤ r7) (ite2 (r7 = (-1 : Int32)) (mX3_costOnward_b88 110 k M (mX3_costOnward_l16 110 k M fuel) (Int32.ofNat a) lc lg 0 x6 (Int32.ofNat c)) (ite2 ((0 : Int32) = 0) (mX3_costOnward_b88 110 k M (mX3_costOnward_l16 110 k M fuel) (Int32.ofNat a) lc lg 0 x6 (Int32.ofNat c)) (mX3_costOnward_b88 110 k M (mX3_costOnward_l16 110 k M fuel) (Int32.ofNat a) lc lg 0 r7 (Int32.ofNat c)))) (ite2 (r7 = (-1 : Int32)) (mX3_costOnward_b88 110 k M (mX3_costOnward_l16 110 k M fuel) (Int32.ofNat a) lc lg 0 x6 (Int32.ofNat c)) (ite2 ((1 : Int32) = 0) (mX3_costOnward_b88 110 k M (mX3_costOnward_l16 110 k M fuel) (Int32.ofNat a) lc lg 0 x6 (Int32.ofNat c)) (mX3_costOnward_b88 110 k M (mX3_costOnward_l16 110 k M fuel) (Int32.ofNat a) lc lg 0 r7 (Int32.ofNat c))))))) (fun r => hrl r (highF (nb k M) N a l (2 * nb k M)) (cntz a (nb k M))) := by
      intro e7 el
      have nx := next x6 el
      have dd : ∀ {y : Option Int32}, Pc (ite2 (r7 = (-1 : Int32)) (mX3_costOnward_b88 110 k M (mX3_costOnward_l16 110 k M fuel) (Int32.ofNat a) lc lg 0 x6 (Int32.ofNat c)) y) (fun r => hrl r (highF (nb k M) N a l (2 * nb k M)) (cntz a (nb k M))) := fun {y} => Pc.i (fun _ => nx) (fun z => absurd e7 z)
      exact Pc.i (fun _ => dd) (fun _ => Pc.i (fun _ => Pc.i (fun _ => dd) (fun _ => dd)) (fun _ => Pc.i (fun _ => dd) (fun _ => dd)))
    rcases p7 with ⟨ho, e7⟩ | ⟨ho, hb, e7⟩ | ⟨ho, hb, p, ep, e7⟩
    · exact dead e7 (by rw [skip ho]; exact hx)
    · refine dead e7 ?_
      have q := c2n ho
      have hk := hK c q ho
      have hvv := hv c q ho
      have el : highF (nb k M) N a l (min (c + 1) (2 * nb k M)) = imax (highF (nb k M) N a l (min c (2 * nb k M))) (cst N a l c + rd N (135 + 14) (17 * (a ||| 2 ^ (c / 2)) + c)) := by
        rw [Nat.min_eq_left (by omega), Nat.min_eq_left (by omega)]
        show (if cnb N a c = true then imax (highF (nb k M) N a l c) (cst N a l c + rd N (135 + 14) (17 * (a ||| 2 ^ (c / 2)) + c)) else _) = _
        rw [← ho1 c q, ho, if_pos rfl]
      rw [el]
      generalize highF (nb k M) N a l (min c (2 * nb k M)) = y at hx
      have hy : -1000000 ≤ (rd N (135 + 14) (17 * (a ||| 2 ^ (c / 2)) + c)).toInt ∧ (rd N (135 + 14) (17 * (a ||| 2 ^ (c / 2)) + c)).toInt ≤ -1000000 + 297 * ((cntz a (nb k M) - 1 : Nat) : Int) := by
        rcases hk.2.2.1 with ⟨_, q2⟩ | ⟨q1, _⟩
        · exact q2
        · rw [hb, nm1] at q1; omega
      have hs := i_add (a := cst N a l c) (b := rd N (135 + 14) (17 * (a ||| 2 ^ (c / 2)) + c)) (by omega) (by omega)
      have z1 := hk.2.2.2
      unfold imax
      by_cases z : y < cst N a l c + rd N (135 + 14) (17 * (a ||| 2 ^ (c / 2)) + c)
      · rw [if_pos z]
        have z := i_lt.mp z
        rcases hx with ⟨x1, x2, x3⟩ | ⟨x1, x2, x3⟩
        · exact Or.inl ⟨x1, by omega, by omega⟩
        · rw [x3] at z; exfalso; omega
      · rw [if_neg z]; exact hx
    · have q := c2n ho
      have hk := hK c q ho
      have hvv := hv c q ho
      have epc := hP c q ho p ep
      rw [← epc] at hvv
      have hb2 : 0 ≤ (rd M (110 + 22) (16 * (a ||| 2 ^ (c / 2)) + c)).toInt ∧ (rd M (110 + 22) (16 * (a ||| 2 ^ (c / 2)) + c)).toInt ≤ 297 * ((cntz a (nb k M) - 1 : Nat) : Int) ∧ rd N (135 + 14) (17 * (a ||| 2 ^ (c / 2)) + c) = rd M (110 + 22) (16 * (a ||| 2 ^ (c / 2)) + c) := by
        rcases hk.2.2.1 with ⟨q1, _⟩ | h
        · exact absurd q1 hb
        · exact h
      have z1 := hk.2.2.2
      have et := i_add (a := rd M (110 + 22) (16 * (a ||| 2 ^ (c / 2)) + c)) (b := p) (by omega) (by omega)
      rw [← e7] at et
      have r7n : ¬ r7 = -1 := fun z => by rw [z, nm1] at et; omega
      have ey : cst N a l c + rd N (135 + 14) (17 * (a ||| 2 ^ (c / 2)) + c) = r7 := by
        rw [← epc, hb2.2.2, e7]; exact Int32.add_comm _ _
      have el : highF (nb k M) N a l (min (c + 1) (2 * nb k M)) = imax (highF (nb k M) N a l (min c (2 * nb k M))) r7 := by
        rw [Nat.min_eq_left (by omega), Nat.min_eq_left (by omega)]
        show (if cnb N a c = true then imax (highF (nb k M) N a l c) (cst N a l c + rd N (135 + 14) (17 * (a ||| 2 ^ (c / 2)) + c)) else _) = _
        rw [← ho1 c q, ho, if_pos rfl, ey]
      have good : hrl r7 r7 (cntz a (nb k M)) := Or.inr ⟨by omega, by omega, rfl⟩
      generalize highF (nb k M) N a l (min c (2 * nb k M)) = y at hx el
      refine Pc.i (fun z => ?_) (fun z => Pc.i (fun _ => Pc.i (fun w => ?_) (fun w => ?_)) (fun w => absurd rfl w))
      · have hy : y.toInt ≤ -1000000 + 297 * (cntz a (nb k M) : Int) := by
          rcases hx with ⟨_, _, q2⟩ | ⟨q1, _⟩
          · exact q2
          · rw [z, nm1] at q1; omega
        refine Pc.i (fun w => absurd w r7n) (fun _ => Pc.i (fun w => absurd w (by decide)) (fun _ => next r7 ?_))
        rw [el]
        unfold imax
        rw [if_pos (i_lt.mpr (by omega))]
        exact good
      · have hy := hx.resolve_left (fun w => z w.1)
        have w := i_le.mp w
        refine Pc.i (fun w => absurd w r7n) (fun _ => Pc.i (fun _ => next x6 ?_) (fun w => absurd rfl w))
        rw [el, hy.2.2]
        unfold imax
        rw [if_neg (fun v => by have v := i_lt.mp v; omega)]
        exact Or.inr ⟨hy.1, hy.2.1, rfl⟩
      · have hy := hx.resolve_left (fun w => z w.1)
        have w := i_nle w
        refine Pc.i (fun w => absurd w r7n) (fun _ => Pc.i (fun w => absurd w (by decide)) (fun _ => next r7 ?_))
        rw [el, hy.2.2]
        unfold imax
        rw [if_pos (i_lt.mpr (by omega))]
        exact good
end CUH
end
/-! part 60zzo.couple3 -/
section
/-! the costs up to the end: alike -/
def CTX (g : Gm) (k m : Nat) (M N0 N : Mem) : Prop := LI k m M 256 ∧ (rd M k 0).toInt ≤ 9 ∧ PR k M (row 136 N) ∧ OKm g N ∧ LOa (nb k M) m N0 N 0 ∧ GOa (nb k M) N0 N ∧ CLa (nb k M) m N 0 ∧ LSd k M M 0 ∧ row 136 N = row 136 N0
section C3
variable {g : Gm} {k m a b c l : Nat} {M N N0 : Mem} {lc lg : Int32}
theorem foldF_none {x0 : Int32} {o : Nat → Bool} {f : Int32 → Int32 → Int32} {t : Nat → Int32} : ∀ n, (∀ c, c < n → o c = false) → foldF x0 o f t n = x0 := by
  intro n
  induction n with
  | zero => intro _; rfl
  | succ n IH =>
    intro h
    show (if o n = true then f (foldF x0 o f t n) (t n) else foldF x0 o f t n) = x0
    rw [h n (by omega), if_neg (by decide)]
    exact IH (fun c hc => h c (by omega))
theorem cu_low (h : CUa k m M N a l lc lg) (h9 : (rd M k 0).toInt ≤ 9) (ha : a < 2 ^ nb k M) (hf : a = 2 ^ nb k M - 1 → ∀ c, c < 2 * nb k M → op M a c = false) : Pc (mX3_costOnward 110 k (Int32.ofNat a) lc lg 1 M) (fun r => lrl r (lowF (nb k M) N a l (2 * nb k M)) (cntz a (nb k M))) := by
  have n8 := nb8 h9
  have a256 := n_256 n8 ha
  have hz := (z_full (nb k M) (by omega) a ha).1
  have p2 := z_pow (nb k M) (by omega)
  unfold mX3_costOnward
  refine Pc.c (pc_allB h9) (fun r2 e2 => Pc.i (fun c1 => Pc.ok ?_) (fun c1 => low_l h n8 a256 hz 5000 0 (-1) (by omega) (Or.inl ⟨rfl, ?_⟩)))
  · rw [e2] at c1
    have e : a = 2 ^ nb k M - 1 := o_inj (by omega) (by omega) c1
    have en : lowF (nb k M) N a l (2 * nb k M) = 0 := by
      show foldF (if a = 2 ^ nb k M - 1 then 0 else 1000000) _ _ _ _ = 0
      rw [foldF_none _ (fun c hc => by rw [← h.2.2.1 c hc]; exact hf e c hc), if_pos e]
    exact Or.inr ⟨by decide, by rw [show ((0 : Int32)).toInt = 0 from rfl]; omega, en⟩
  · have e : ¬ a = 2 ^ nb k M - 1 := fun z => c1 (by rw [e2, z])
    rw [Nat.min_eq_left (by omega)]
    show (if a = 2 ^ nb k M - 1 then (0 : Int32) else 1000000).toInt = 1000000
    rw [if_neg e]; rfl
theorem cu_high (h : CUa k m M N a l lc lg) (h9 : (rd M k 0).toInt ≤ 9) (ha : a < 2 ^ nb k M) (hf : a = 2 ^ nb k M - 1 → ∀ c, c < 2 * nb k M → op M a c = false) : Pc (mX3_costOnward 110 k (Int32.ofNat a) lc lg 0 M) (fun r => hrl r (highF (nb k M) N a l (2 * nb k M)) (cntz a (nb k M))) := by
  have n8 := nb8 h9
  have a256 := n_256 n8 ha
  have hz := (z_full (nb k M) (by omega) a ha).1
  have p2 := z_pow (nb k M) (by omega)
  unfold mX3_costOnward
  refine Pc.c (pc_allB h9) (fun r2 e2 => Pc.i (fun c1 => Pc.ok ?_) (fun c1 => high_l h n8 a256 hz 5000 0 (-1) (by omega) (Or.inl ⟨rfl, ?_⟩)))
  · rw [e2] at c1
    have e : a = 2 ^ nb k M - 1 := o_inj (by omega) (by omega) c1
    have en : highF (nb k M) N a l (2 * nb k M) = 0 := by
      show foldF (if a = 2 ^ nb k M - 1 then 0 else -1000000) _ _ _ _ = 0
      rw [foldF_none _ (fun c hc => by rw [← h.2.2.1 c hc]; exact hf e c hc), if_pos e]
    exact Or.inr ⟨by decide, by rw [show ((0 : Int32)).toInt = 0 from rfl]; omega, en⟩
  · have e : ¬ a = 2 ^ nb k M - 1 := fun z => c1 (by rw [e2, z])
    rw [Nat.min_eq_left (by omega)]
    show -1000000 ≤ (if a = 2 ^ nb k M - 1 then (0 : Int32) else -1000000).toInt ∧ (if a = 2 ^ nb k M - 1 then (0 : Int32) else -1000000).toInt ≤ _
    rw [if_neg e, show ((-1000000 : Int32)).toInt = -1000000 from rfl]
    omega
/-- what is known behind the steps of a set -/
def KB (k : Nat) (M N : Mem) (a : Nat) : Prop := ∀ c, c < 2 * nb k M → op M a c = true → lrl (rd M (110 + 21) (16 * (a ||| 2 ^ (c / 2)) + c)) (rd N (135 + 13) (17 * (a ||| 2 ^ (c / 2)) + c)) (cntz (a ||| 2 ^ (c / 2)) (nb k M)) ∧ hrl (rd M (110 + 22) (16 * (a ||| 2 ^ (c / 2)) + c)) (rd N (135 + 14) (17 * (a ||| 2 ^ (c / 2)) + c)) (cntz (a ||| 2 ^ (c / 2)) (nb k M))
theorem CTX.pb (h : CTX g k m M N0 N) : PB k M (row 136 N0) := by rw [← h.2.2.2.2.2.2.2.2]; exact h.2.2.1.pb
theorem cst_bd (hK : OKm g N) (ha : a < 256) (hl : l ≤ 16) (hc : c < 16) : 0 ≤ (cst N a l c).toInt ∧ (cst N a l c).toInt ≤ 297 := by
  obtain ⟨v, ev, hv⟩ := cst_ok (a := a) (l := l) (c := c) hK ha hl hc
  unfold cst
  rw [ev]
  exact hv
theorem CTX.cua (h : CTX g k m M N0 N) (ha : a < 256) (hr : rc M a) (hl : l ≤ 16) (hp : PRC k M N a l lc lg) (hk : KB k M N a) : CUa k m M N a l lc lg := by
  have hB := h.pb
  obtain ⟨hL, h9, hP, hK, hO, hG, hC, hS, _⟩ := h
  have n8 := nb8 h9
  refine ⟨hp, fun c hc _ => cst_bd hK ha hl (by omega), fun c hc => cu_op hL hB hO ha hr hc, fun c hc => op_hi hL ha hr hc, fun c hc ho => ?_⟩
  have st := hL.step n8 ha hr (by omega) ho
  have hz := z_set (nb k M) (by omega) a (by omega) (c / 2) (by omega) st.2.1
  have q := hk c hc ho
  rw [show cntz (a ||| 2 ^ (c / 2)) (nb k M) = cntz a (nb k M) - 1 by omega] at q
  exact ⟨st.2.2.2.2.1, q.1, q.2, by omega⟩
theorem CTX.full (h : CTX g k m M N0 N) (ha : a < 256) (hr : rc M a) : a = 2 ^ nb k M - 1 → ∀ c, c < 2 * nb k M → op M a c = false := by
  intro e c hc
  have n8 := nb8 h.2.1
  cases ho : op M a c with
  | false => rfl
  | true => exact absurd e (h.1.full n8 ha hr (by omega) ho)
/-- the last step of a set, and what the class holds for it -/
def LST (k : Nat) (M N : Mem) (a l : Nat) (lc lg : Int32) : Prop := (l = 16 ∧ lc = -1) ∨ (l < 2 * nb k M ∧ a.testBit (l / 2) = true ∧ lc = Int32.ofNat l ∧ lg = rd N (135 + 11) (16 * (a - 2 ^ (l / 2)) + l))
theorem LST.vl (h : LST k M N a l lc lg) : VL (nb k M) a l := by
  rcases h with ⟨e, _⟩ | ⟨e1, e2, _⟩
  · exact Or.inl e
  · exact Or.inr ⟨e1, e2⟩
theorem CTX.prc (h : CTX g k m M N0 N) (ha : a < 256) (hr : rc M a) (hl : LST k M N a l lc lg) : PRC k M N a l lc lg := by
  have n8 := nb8 h.2.1
  rcases hl with ⟨rfl, rfl⟩ | ⟨h1, h2, rfl, h4⟩
  · exact cu_price0
  · exact cu_price h.2.2.1 n8 h.2.2.2.1 h1 ha h2 h4 (fun c hc ho => cu_gauge h.1 h.pb h.2.2.2.2.2.1 ha hr hc ho)
/-- a step behind a state: it is the last one there -/
theorem CTX.lst (h : CTX g k m M N0 N) (hb : b < 256) (hr : rc M b) (hl : l < 16) (ho : op M b l = true) : LST k M N (b ||| 2 ^ (l / 2)) l (Int32.ofNat l) (rd M (110 + 20) (16 * b + l)) := by
  have n8 := nb8 h.2.1
  have st := h.1.step n8 hb hr hl ho
  have no := n_off2 b hb (l / 2) (by omega) st.2.1
  refine Or.inr ⟨st.1, no.2, rfl, ?_⟩
  rw [no.1]
  exact cu_gauge h.1 h.pb h.2.2.2.2.2.1 hb hr st.1 ho
theorem cu_costs (h : CTX g k m M N0 N) : ∀ z b l, 2 ^ nb k M - (b ||| 2 ^ (l / 2)) ≤ z → b < 256 → rc M b → l < 16 → op M b l = true → lrl (rd M (110 + 21) (16 * (b ||| 2 ^ (l / 2)) + l)) (rd N (135 + 13) (17 * (b ||| 2 ^ (l / 2)) + l)) (cntz (b ||| 2 ^ (l / 2)) (nb k M)) ∧ hrl (rd M (110 + 22) (16 * (b ||| 2 ^ (l / 2)) + l)) (rd N (135 + 14) (17 * (b ||| 2 ^ (l / 2)) + l)) (cntz (b ||| 2 ^ (l / 2)) (nb k M)) := by
  have n8 := nb8 h.2.1
  intro z
  induction z with
  | zero =>
    intro b l hz hb hr hl ho
    have st := h.1.step n8 hb hr hl ho
    omega
  | succ z IH =>
    intro b l hz hb hr hl ho
    have st := h.1.step n8 hb hr hl ho
    have hl2 := h.lst hb hr hl ho
    have ra := st.2.2.2.2.2
    have a256 := st.2.2.2.2.1
    have hk : KB k M N (b ||| 2 ^ (l / 2)) := fun c hc hoc => by
      have st2 := h.1.step n8 a256 ra (by omega) hoc
      exact IH (b ||| 2 ^ (l / 2)) c (by omega) a256 ra (by omega) hoc
    have cu := h.cua a256 ra (by omega) (h.prc a256 ra hl2) hk
    have q := h.2.2.2.2.2.2.2.1 b l hb hl hr ho (by omega)
    have hn := h.1.2.2.1 _ a256 ra
    have cl := h.2.2.2.2.2.2.1 (b ||| 2 ^ (l / 2)) (by omega) hn.1 hn.2 l hl2.vl
    rw [cl.1, cl.2]
    exact ⟨cu_low cu h.2.1 st.2.2.2.1 (h.full a256 ra) _ q.1, cu_high cu h.2.1 st.2.2.2.1 (h.full a256 ra) _ q.2⟩
theorem CTX.kb (h : CTX g k m M N0 N) (ha : a < 256) (hr : rc M a) : KB k M N a := fun c hc ho => cu_costs h _ a c (Nat.le_refl _) ha hr (by have := nb8 h.2.1; omega) ho
/-- the costs from a state on -/
theorem CTX.tot (h : CTX g k m M N0 N) (ha : a < 256) (hr : rc M a) (hl : LST k M N a l lc lg) : Pc (mX3_costOnward 110 k (Int32.ofNat a) lc lg 1 M) (fun r => lrl r (rd N (135 + 13) (17 * a + l)) (cntz a (nb k M))) ∧ Pc (mX3_costOnward 110 k (Int32.ofNat a) lc lg 0 M) (fun r => hrl r (rd N (135 + 14) (17 * a + l)) (cntz a (nb k M))) := by
  have n8 := nb8 h.2.1
  have hn := h.1.2.2.1 a ha hr
  have l16 : l ≤ 16 := by rcases hl with ⟨e, _⟩ | ⟨e, _⟩ <;> omega
  have cu := h.cua ha hr l16 (h.prc ha hr hl) (h.kb ha hr)
  have cl := h.2.2.2.2.2.2.1 a (by omega) hn.1 hn.2 l hl.vl
  rw [cl.1, cl.2]
  exact ⟨cu_low cu h.2.1 hn.1 (h.full ha hr), cu_high cu h.2.1 hn.1 (h.full ha hr)⟩
end C3
end
/-! part 60zzp.plan2 -/
section
/-! the plan: alike -/
def bco (n : Nat) (N : Mem) (a l c : Nat) : Prop := c < 2 * n ∧ cnb N a c = true ∧ 0 < mn N (a ||| 2 ^ (c / 2)) ∧ cst N a l c + rd N (135 + 13) (17 * (a ||| 2 ^ (c / 2)) + c) = rd N (135 + 13) (17 * a + l)
/-- the smallest step of a best order -/
def bst (n : Nat) (N : Mem) (a l c : Nat) : Prop := bco n N a l c ∧ ∀ c', c' < c → ¬ bco n N a l c'
def RCh (n : Nat) (N : Mem) : Nat → Nat → Nat → Nat → Prop
  | 0, a, l, c => bst n N a l c
  | i + 1, a, l, c => ∃ c1, bst n N a l c1 ∧ RCh n N i (a ||| 2 ^ (c1 / 2)) c1 c
section P2
variable {g : Gm} {k m n a b c l : Nat} {M N N0 : Mem} {lc lg r : Int32}
theorem bst_u {c c' : Nat} (h : bst n N a l c) (h' : bst n N a l c') : c = c' := by
  by_cases q : c < c'
  · exact absurd h.1 (h'.2 c q)
  · by_cases q2 : c' < c
    · exact absurd h'.1 (h.2 c' q2)
    · omega
theorem RCh.u : ∀ i a l c c', RCh n N i a l c → RCh n N i a l c' → c = c' := by
  intro i
  induction i with
  | zero => intro a l c c' h h'; exact bst_u h h'
  | succ i IH =>
    intro a l c c' h h'
    obtain ⟨c1, h1, h2⟩ := h
    obtain ⟨c2, h3, h4⟩ := h'
    have e := bst_u h1 h3
    subst e
    exact IH _ _ _ _ h2 h4
theorem pc_bestR (hN : NM n m N) (hK : OKm g N) (ha : a < 2 ^ n) (hl : l ≤ 16) (hO : LOp n N0 N a (2 * n)) : Pc (mX7_bestStep 135 (Int32.ofNat a) (Int32.ofNat l) N) (fun r => (∃ c, r = Int32.ofNat c ∧ bst n N a l c) ∨ (r = -1 ∧ ∀ c, ¬ bco n N a l c)) := by
  have hn := hN.2.1
  have hp := z_pow n hn
  have key : ∀ (fuel c : Nat), c ≤ 2 * n → (∀ c', c' < c → ¬ bco n N a l c') → Pc (mX7_bestStep_l2 135 N fuel (Int32.ofNat a) (Int32.ofNat l) (Int32.ofNat c)) (fun r => (∃ c, r = Int32.ofNat c ∧ bst n N a l c) ∨ (r = -1 ∧ ∀ c, ¬ bco n N a l c)) := by
    intro fuel
    induction fuel with
    | zero => intro c _ _ q e; cases e
    | succ fuel IH =>
      intro c hc hno
      show Pc (mX7_bestStep_b2 135 N (mX7_bestStep_l2 135 N fuel) (Int32.ofNat a) (Int32.ofNat l) (Int32.ofNat c)) _
      unfold mX7_bestStep_b2
      have nx : ¬ bco n N a l c → c < 2 * n → Pc (mX7_bestStep_b125 135 N (mX7_bestStep_l2 135 N fuel) (Int32.ofNat a) (Int32.ofNat l) (Int32.ofNat c)) (fun r => (∃ c, r = Int32.ofNat c ∧ bst n N a l c) ∨ (r = -1 ∧ ∀ c, ¬ bco n N a l c)) := by
        intro h1 h2
        unfold mX7_bestStep_b125
        refine Pc.b (fun x ex => ?_)
        have e : x = Int32.ofNat (c + 1) := by rw [ex]; exact (Int32.ofNat_add c 1).symm
        rw [e]
        refine IH (c + 1) (by omega) (fun c' hc' => ?_)
        by_cases q : c' = c
        · subst q; exact h1
        · exact hno c' (by omega)
      refine Pc.k (fun _ => Pc.i (fun cc => Pc.ok (Or.inr ⟨rfl, fun c' h => ?_⟩)) (fun cc => Pc.b (fun x4 e4 => ?_)))
      · have cc := i_le.mp cc
        rw [n2_of hN, t_of (by omega)] at cc
        exact hno c' (by have := h.1; omega) h
      · have cc := i_nle cc
        rw [n2_of hN, t_of (by omega)] at cc
        have hc2 : c < 2 * n := by omega
        rw [f_half c (by omega), f_or a (by omega) (c / 2) (by omega)] at e4
        subst e4
        rw [ix16c (by omega) (by omega)]
        refine Pc.k (fun _ => Pc.i (fun q => nx (fun h => ?_) hc2) (fun q => ?_))
        · have h2 := h.2.1
          unfold cnb at h2
          rw [decide_eq_true q] at h2; cases h2
        have ho : cnb N a c = true := by
          unfold cnb
          rw [decide_eq_false q]; rfl
        have hz := z_set n hn a ha (c / 2) (by omega) ((hO.1 c hc2).2 ho)
        rw [c_of (a := a ||| 2 ^ (c / 2)) (by omega)]
        refine Pc.k (fun _ => Pc.i (fun c1 => nx (fun h => lg_pos.mpr h.2.2.1 c1) hc2) (fun c1 => ?_))
        have hmn : 0 < mn N (a ||| 2 ^ (c / 2)) := lg_pos.mp c1
        have b92 : ∀ w : Int32, cstO N (Int32.ofNat a) (Int32.ofNat l) (Int32.ofNat c) = some w → Pc (mX7_bestStep_b92 135 N (mX7_bestStep_l2 135 N fuel) (Int32.ofNat a) (Int32.ofNat l) (Int32.ofNat c) (Int32.ofNat (a ||| 2 ^ (c / 2))) w) (fun r => (∃ c, r = Int32.ofNat c ∧ bst n N a l c) ∨ (r = -1 ∧ ∀ c, ¬ bco n N a l c)) := by
          intro w hw
          have ew : cst N a l c = w := by unfold cst; rw [hw]; rfl
          unfold mX7_bestStep_b92
          rw [ix17c (by omega) (by omega), ix17c (by omega) (by omega)]
          refine Pc.k (fun _ => Pc.k (fun _ => Pc.i (fun c2 => Pc.ok (Or.inl ⟨c, rfl, ⟨hc2, ho, hmn, ?_⟩, hno⟩)) (fun c2 => nx (fun h => c2 ?_) hc2)))
          · rw [ew]; exact c2
          · have h4 := h.2.2.2
            rw [ew] at h4; exact h4
        refine Pc.i (fun e => b92 0 ?_) (fun e => Pc.c (Pc.self _) (fun r22 e22 => Pc.k (fun _ => Pc.c (Pc.self _) (fun r26 e26 => b92 r26 ?_))))
        · unfold cstO ite2
          rw [if_pos e]
        · unfold cstO ite2
          rw [if_neg e, e22]
          show mX7_costBehind _ _ _ _ _ _ _ _ = _
          rw [ix16c (by omega) (by omega)]
          exact e26
  unfold mX7_bestStep
  exact key 5000 0 (by omega) (fun c' h => by omega)
/-- the class's step fits where the reference's does -/
theorem thr_bco (h : CTX g k m M N0 N) (hA : Ald (nb k M) m N 0) (ha : a < 256) (hr : rc M a) (hl : LST k M N a l lc lg) (hrr : 0 ≤ r.toInt) (e : r = rd N (135 + 13) (17 * a + l)) (hc : c < 16) {v : Int32} (hv : mX3_costThrough 110 k (Int32.ofNat a) lc lg (Int32.ofNat c) 1 M = some v) : v = r ↔ bco (nb k M) N a l c := by
  have n8 := nb8 h.2.1
  have nm1 : ((-1 : Int32)).toInt = -1 := rfl
  have hB := h.pb
  have l16 : l ≤ 16 := by rcases hl with ⟨e, _⟩ | ⟨e, _⟩ <;> omega
  have st0 := fun ho => h.1.step n8 ha hr hc ho
  have q := pc_thr (k := k) (lc := lc) (lg := lg) (x6 := 1) ha hc (fun ho => (st0 ho).2.2.2.2.1) v hv
  rw [if_neg (by decide)] at q
  constructor
  · intro ev
    rcases q with ⟨_, q⟩ | ⟨_, _, q⟩ | ⟨ho, hb, p, ep, q⟩
    · rw [← ev, q, nm1] at hrr; omega
    · rw [← ev, q, nm1] at hrr; omega
    · have st := st0 ho
      have hn := h.1.2.2.1 _ st.2.2.2.2.1 st.2.2.2.2.2
      have hk := (h.kb ha hr c st.1 ho).1.resolve_left (fun z => hb z.1)
      have epc := h.prc ha hr hl c st.1 ho p ep
      have eo : cnb N a c = true := by rw [← cu_op h.1 hB h.2.2.2.2.1 ha hr st.1]; exact ho
      have hz8 := (z_full (nb k M) (by omega) (a ||| 2 ^ (c / 2)) st.2.2.2.1).1
      refine ⟨st.1, eo, ?_, ?_⟩
      · have hd := hA (a ||| 2 ^ (c / 2)) (by omega) hn.1 hn.2 c (Or.inr ⟨st.1, (n_off2 a ha (c / 2) (by omega) st.2.1).2⟩)
        by_cases z : 0 < mn N (a ||| 2 ^ (c / 2))
        · exact z
        · have := hd.2 z
          have e2 := hk.2.2
          have e3 : (rd N (135 + 13) (17 * (a ||| 2 ^ (c / 2)) + c)).toInt = 1000000 := this
          rw [e2] at e3
          omega
      · rw [← e, ← ev, q, ← epc, hk.2.2]; exact Int32.add_comm _ _
  · rintro ⟨hc2, eo, hmn, es⟩
    have ho : op M a c = true := by rw [cu_op h.1 hB h.2.2.2.2.1 ha hr hc2]; exact eo
    have st := st0 ho
    have hn := h.1.2.2.1 _ st.2.2.2.2.1 st.2.2.2.2.2
    have hz8 := (z_full (nb k M) (by omega) (a ||| 2 ^ (c / 2)) st.2.2.2.1).1
    have hd := (hA (a ||| 2 ^ (c / 2)) (by omega) hn.1 hn.2 c (Or.inr ⟨st.1, (n_off2 a ha (c / 2) (by omega) st.2.1).2⟩)).1 hmn
    have hd1 : (rd N (135 + 13) (17 * (a ||| 2 ^ (c / 2)) + c)).toInt ≤ 297 * (cntz (a ||| 2 ^ (c / 2)) (nb k M) : Int) := hd.1.2
    have hk := (h.kb ha hr c st.1 ho).1.resolve_left (fun z => by have := z.2; omega)
    rcases q with ⟨q, _⟩ | ⟨_, q, _⟩ | ⟨_, _, p, ep, q⟩
    · rw [ho] at q; cases q
    · rw [q, nm1] at hk; omega
    · have epc := h.prc ha hr hl c st.1 ho p ep
      rw [e, ← es, q, ← epc, hk.2.2]; exact Int32.add_comm _ _
theorem small_bst (h : CTX g k m M N0 N) (hA : Ald (nb k M) m N 0) (ha : a < 256) (hr : rc M a) (hl : LST k M N a l lc lg) (hrr : 0 ≤ r.toInt) (e : r = rd N (135 + 13) (17 * a + l)) : Pc (mX3_smallestStep 110 k (Int32.ofNat a) lc lg r M) (fun s => (s = -1 ∧ ∀ c, ¬ bco (nb k M) N a l c) ∨ ∃ c, s = Int32.ofNat c ∧ bst (nb k M) N a l c) := by
  have n8 := nb8 h.2.1
  have hne : ¬ r = -1 := fun z => by rw [z, show ((-1 : Int32)).toInt = -1 from rfl] at hrr; omega
  refine (pc_small (k := k) (T := M) (l := lc) (g := lg) ha hne).mono (fun s hs => ?_)
  rcases hs with ⟨e1, h1⟩ | ⟨c, hc, e1, ho, ht, hno⟩
  · refine Or.inl ⟨e1, fun c hb => ?_⟩
    obtain ⟨v, ev, hv⟩ := h1 c (by have := hb.1; omega)
    exact hv ((thr_bco h hA ha hr hl hrr e (by have := hb.1; omega) ev).mpr hb)
  · refine Or.inr ⟨c, e1, (thr_bco h hA ha hr hl hrr e hc ht).mp rfl, fun c' hc' hb => ?_⟩
    obtain ⟨v, ev, hv⟩ := hno c' hc'
    exact hv ((thr_bco h hA ha hr hl hrr e (by omega) ev).mpr hb)
/-- from a state from which there is an order: the class's plan is the reference's -/
theorem ch_plan (h : CTX g k m M N0 N) (hA : Ald (nb k M) m N 0) : ∀ (j p a l : Nat) (lc lg r : Int32), a < 256 → rc M a → LST k M N a l lc lg → 0 ≤ r.toInt → r = rd N (135 + 13) (17 * a + l) → 0 < mn N a → cntz a (nb k M) ≤ j → Ch k M M j p a lc lg r → rd M 110 3 = Int32.ofNat (p + cntz a (nb k M)) ∧ ∀ i, i < cntz a (nb k M) → ∃ c, rd M (110 + 1) (p + i) = Int32.ofNat c ∧ RCh (nb k M) N i a l c := by
  have n8 := nb8 h.2.1
  have nm1 : ((-1 : Int32)).toInt = -1 := rfl
  intro j
  induction j with
  | zero =>
    intro p a l lc lg r ha hr hl hrr e hm hj hC
    have ez : cntz a (nb k M) = 0 := by omega
    rw [ez]
    exact ⟨hC, fun i hi => by omega⟩
  | succ j IH =>
    intro p a l lc lg r ha hr hl hrr e hm hj hC
    have hn := h.1.2.2.1 a ha hr
    have hd := (hA a (by omega) hn.1 hn.2 l hl.vl).1 hm
    rcases hC with ⟨e1, _⟩ | ⟨_, hC⟩
    · rw [e1, nm1] at hrr; omega
    by_cases ef : a = 2 ^ nb k M - 1
    · have ez : cntz a (nb k M) = 0 := by rw [ef]; exact (z_full2 (nb k M) (by omega)).1
      rcases hC with ⟨_, e2⟩ | ⟨c, hc, _, _, ho, _⟩
      · rw [ez]
        exact ⟨e2, fun i hi => by omega⟩
      · exact absurd ef (h.1.full n8 ha hr hc ho)
    · obtain ⟨c0, hc0, q1, q2, v, q3, q4⟩ := hd.2 ef
      have hb0 : bco (nb k M) N a l c0 := by
        refine ⟨hc0, ?_, q2, ?_⟩
        · unfold cnb
          rw [decide_eq_false q1]; rfl
        · have ec : cst N a l c0 = v := by unfold cst; rw [q3]; rfl
          have hs := cst_bd (a := a) (l := l) (c := c0) h.2.2.2.1 ha (by rcases hl with ⟨e, _⟩ | ⟨e, _⟩ <;> omega) (by omega)
          have hO := (h.2.2.2.2.1 a (by omega) hn.1 hn.2).1 c0 hc0
          have ho0 : cnb N a c0 = true := by
            unfold cnb
            rw [decide_eq_false q1]; rfl
          have hz := z_set (nb k M) (by omega) a hn.1 (c0 / 2) (by omega) (hO.2 ho0)
          have hd0 := (hA (a ||| 2 ^ (c0 / 2)) (by omega) hz.2.2.1 (z_sup hn.2) c0 (Or.inr ⟨hc0, hz.2.2.2⟩)).1 q2
          have hd1 : 0 ≤ (rd N (135 + 13) (17 * (a ||| 2 ^ (c0 / 2)) + c0)).toInt ∧ (rd N (135 + 13) (17 * (a ||| 2 ^ (c0 / 2)) + c0)).toInt ≤ 297 * (cntz (a ||| 2 ^ (c0 / 2)) (nb k M) : Int) := hd0.1
          have hz8 := (z_full (nb k M) (by omega) (a ||| 2 ^ (c0 / 2)) hz.2.2.1).1
          rw [i_eq, ec, i_add (by omega) (by omega)]
          exact q4
      have sb := small_bst h hA ha hr hl hrr e
      rcases hC with ⟨e2, _⟩ | ⟨c, hc, e2, e3, ho, hC⟩
      · rcases sb _ e2 with ⟨_, hno⟩ | ⟨c, es, hb⟩
        · exact absurd hb0 (hno c0)
        · exfalso
          have := congrArg Int32.toInt es
          rw [nm1, t_of (by have := hb.1.1; omega)] at this; omega
      · have hb : bst (nb k M) N a l c := by
          rcases sb _ e2 with ⟨es, _⟩ | ⟨c', es, hb⟩
          · exfalso
            have := congrArg Int32.toInt es
            rw [nm1, t_of (by omega)] at this; omega
          · have ec : c = c' := o_inj (by omega) (by have := hb.1.1; omega) es
            rw [ec]; exact hb
        have st := h.1.step n8 ha hr hc ho
        have hz := z_set (nb k M) (by omega) a hn.1 (c / 2) (by omega) st.2.1
        have hl' := h.lst ha hr hc ho
        have hk := (h.kb ha hr c st.1 ho).1
        have hn2 := h.1.2.2.1 _ st.2.2.2.2.1 st.2.2.2.2.2
        have hd2 := (hA (a ||| 2 ^ (c / 2)) (by omega) hn2.1 hn2.2 c hl'.vl).1 hb.1.2.2.1
        have hd3 : (rd N (135 + 13) (17 * (a ||| 2 ^ (c / 2)) + c)).toInt ≤ 297 * (cntz (a ||| 2 ^ (c / 2)) (nb k M) : Int) := hd2.1.2
        have hz8 := (z_full (nb k M) (by omega) (a ||| 2 ^ (c / 2)) st.2.2.2.1).1
        have hk2 := hk.resolve_left (fun z => by have := z.2; omega)
        have ih := IH (p + 1) (a ||| 2 ^ (c / 2)) c (Int32.ofNat c) _ _ st.2.2.2.2.1 st.2.2.2.2.2 hl' hk2.1 hk2.2.2.symm hb.1.2.2.1 (by omega) hC
        refine ⟨?_, fun i hi => ?_⟩
        · rw [ih.1, show p + 1 + cntz (a ||| 2 ^ (c / 2)) (nb k M) = p + cntz a (nb k M) by omega]
        · cases i with
          | zero => exact ⟨c, e3, hb⟩
          | succ i =>
            obtain ⟨c', q1, q2⟩ := ih.2 i (by omega)
            rw [show p + 1 + i = p + (i + 1) by omega] at q1
            exact ⟨c', q1, c, hb, q2⟩
end P2
end
/-! part 60zzq.state -/
section
/-! what holds of a state's row; what both hold between calls -/
def GVr (f : Nat → Int32) (a c : Nat) (v : Int32) : Prop := ∀ N, (∀ j, j < 19 → rd N 136 j = f j) → Pc (mX7_gaugeOf 135 (Int32.ofNat (c / 2)) (Int32.ofNat (c % 2)) (Int32.ofNat a) N) (fun q => q.2 = v)
/-- the last step's gauge is that of the state before it -/
def LG2 (f : Nat → Int32) : Prop := ∀ j m : Nat, f 53 = Int32.ofNat (j + 1) → j < 8 → f 52 = Int32.ofNat m → m < 256 → ∃ l : Nat, l < 16 ∧ (f (54 + 4 * j)).toInt = ((l / 2 : Nat) : Int) ∧ (f (55 + 4 * j)).toInt = ((l % 2 : Nat) : Int) ∧ m.testBit (l / 2) = true ∧ GVr f (m - 2 ^ (l / 2)) l (f (56 + 4 * j))
def RI (f : Nat → Int32) : Prop := (f 53).toInt ≤ 8 ∧ (∀ n : Nat, (f 0).toInt = (n : Int) → SQ n f) ∧ LG2 f
def HI (N : Mem) : Prop := ∀ i : Nat, i < 10 → (i : Int) < (rd N 135 4).toInt → RI (fun j => rd N 139 (86 * i + j))
def SS (M N : Mem) : Prop := PR 5 M (row 136 N) ∧ HRel M N ∧ RI (row 136 N) ∧ HI N ∧ PV M
section ST
variable {g : Gm} {n m a b c l : Nat} {M M' N N' N0 : Mem} {lc lg r : Int32}
theorem RI.cong {f f' : Nat → Int32} (h : RI f) (e : ∀ p, p < 86 → f' p = f p) : RI f' := by
  have h53 := h.1
  refine ⟨by rw [e 53 (by omega)]; exact h.1, fun n hn j hj => ?_, fun j m h53 h8 h52 hm => ?_⟩
  · rw [e 0 (by omega)] at hn
    rw [e 53 (by omega)] at hj
    rw [e _ (by omega), e _ (by omega)]; exact h.2.1 n hn j hj
  · rw [e _ (by omega)] at h53 h52
    obtain ⟨l, h1, h2, h3, h4, h5⟩ := h.2.2 j m h53 h8 h52 hm
    refine ⟨l, h1, ?_, ?_, h4, ?_⟩
    · rw [e _ (by omega)]; exact h2
    · rw [e _ (by omega)]; exact h3
    · rw [e _ (by omega)]
      exact fun N hN => h5 N (fun j hj => (hN j hj).trans (e j (by omega)))
theorem pr_9 {f : Nat → Int32} (h : PR 5 M f) : (rd M 5 0).toInt ≤ 9 := by rw [h.lc]; exact h.lb.2
/-- the row's numbers -/
theorem row_at (hI : MI N) (hP : PR 5 M (row 136 N)) : ∃ m, m < 2 ^ nb 5 M ∧ rd M 5 13 = Int32.ofNat m ∧ Row (nb 5 M) m (rd N 136) := by
  obtain ⟨n, m, hR⟩ := hI.2.1
  have en : n = nb 5 M := by
    have h1 := hP.pb.bn
    have h2 : rd N 136 0 = Int32.ofNat n := hR.1
    have h3 : (rd N 136 0).toInt = (nb 5 M : Int) := h1
    rw [h2, t_of (by have := hR.2.1; omega)] at h3
    omega
  subst en
  exact ⟨m, hR.2.2.2.1, hP.ma.trans hR.2.2.1, hR⟩
theorem last_some {f : Nat → Int32} (hP : PR 5 M f) : ∃ lc lg, mX1_lastCode 5 M = some lc ∧ mX1_lastGauge 5 M = some lg := by
  have hs := hP.sb
  have n1 : ((1 : Int32)).toInt = 1 := rfl
  have hn : rd M 5 14 = f 53 := hP.ns
  unfold mX1_lastCode mX1_lastGauge ite2
  rw [hn]
  by_cases c : f 53 ≤ 0
  · rw [if_pos c, if_pos c]; exact ⟨_, _, rfl, rfl⟩
  · rw [if_neg c, if_neg c]
    have c : 0 < (f 53).toInt := i_nle c
    have e := i_sub (a := f 53) (b := 1) (by omega) (by omega)
    have o : okb (f 53 - (1 : Int32)) 8 = true := ok_in (by omega) (by omega)
    rw [o]
    exact ⟨_, _, rfl, rfl⟩
theorem PV.ks {S : Nat → Nat → Prop} (h : PV M) (hk : KS S M M') (hs : ∀ c j, 110 ≤ c → c ≤ 132 → (c < 112 ∨ 118 < c) → ¬ S c j) (hl : ∀ j, rl M' (110 + 19) j = rl M (110 + 19) j) : PV M' := by
  have fr : ∀ c j, 110 ≤ c → c ≤ 132 → (c < 112 ∨ 118 < c) → rd M' c j = rd M c j := fun c j h1 h2 h3 => hk c j (hs c j h1 h2 h3)
  have hb : BL 119 M 119 M' := ⟨fr _ _ (by omega) (by omega) (by omega), fr _ _ (by omega) (by omega) (by omega), fun _ _ _ => fr _ _ (by omega) (by omega) (by omega), fun _ _ => fr _ _ (by omega) (by omega) (by omega)⟩
  have e : ∀ c j, 119 ≤ c → c < 119 + 8 → rd M' c j = rd M c j := fun c j h1 h2 => fr c j (by omega) (by omega) (by omega)
  have hg : GL 119 M 119 M' := ⟨e _ _ (by omega) (by omega), last_eq (e _ _ (by omega) (by omega)) (fun j _ => e _ _ (by omega) (by omega)), lastg_eq (e _ _ (by omega) (by omega)) (fun j _ => e _ _ (by omega) (by omega)), e _ _ (by omega) (by omega), e _ _ (by omega) (by omega), e _ _ (by omega) (by omega)⟩
  refine ⟨h.1.bl hb (fun _ => fr _ _ (by omega) (by omega) (by omega)) (fun _ => fr _ _ (by omega) (by omega) (by omega)), by rw [hb.1]; exact h.2.1, fun h6 => ?_⟩
  rw [fr _ _ (by omega) (by omega) (by omega)] at h6
  obtain ⟨m, h1, h2, h3⟩ := h.2.2 h6
  have n8 := nb8 h.2.1
  refine ⟨m, by rw [hb.bn]; exact h1, hg.1.trans h2, ?_⟩
  exact h3.of n8 (n_256 n8 h1) hb hg ⟨fr _ _ (by omega) (by omega) (by omega), fr _ _ (by omega) (by omega) (by omega), fr _ _ (by omega) (by omega) (by omega)⟩ (fun c j hc => fr c j (by omega) (by omega) (by omega)) hl
theorem SS.cl (h : SS M N) (e : ∀ c j, (5 ≤ c ∧ c < 13) ∨ c = 21 ∨ (23 ≤ c ∧ c < 103) → rd M' c j = rd M c j) (hv : PV M') : SS M' N :=
  ⟨h.1.mem (fun c j h1 h2 => e c j (by omega)), h.2.1.ks (fun c j hc => e c j (by omega)) (fun _ _ _ => rfl), h.2.2.1, h.2.2.2.1, hv⟩
/-- the places alone are written -/
theorem SS.pl {S : Nat → Nat → Prop} (h : SS M N) (hk : KS S M M') (hl : KL M M') (hs : ∀ c j, S c j → (103 ≤ c ∧ c ≤ 109) ∨ (112 ≤ c ∧ c ≤ 118)) : SS M' N :=
  h.cl (fun c j hc => hk c j (fun z => by have := hs c j z; omega)) (h.2.2.2.2.ks hk (fun c j h1 h2 h3 z => by have := hs c j z; omega) (fun j => hl.rl j))
theorem SS.rf (h : SS M N) (e0 : ∀ j, rd N' 136 j = rd N 136 j) (e1 : ∀ j, rd N' 139 j = rd N 139 j) (e2 : rd N' 135 4 = rd N 135 4) : SS M N' := by
  have er : row 136 N' = row 136 N := funext e0
  obtain ⟨h1, h2, h3, h4, h5⟩ := h
  refine ⟨by rw [er]; exact h1, h2.ks (fun _ _ _ => rfl) (fun c j hc => ?_), by rw [er]; exact h3, fun i hi h => ?_, h5⟩
  · rcases hc with rfl | ⟨rfl, rfl⟩
    · exact e1 j
    · exact e2
  · rw [e2] at h
    have eq : (fun j => rd N' 139 (86 * i + j)) = (fun j => rd N 139 (86 * i + j)) := funext (fun j => e1 _)
    rw [eq]; exact h4 i hi h
theorem SS.ks {S : Nat → Nat → Prop} (h : SS M N) (hk : KS S N N') (hs : ∀ c j, c = 136 ∨ c = 139 ∨ (c = 135 ∧ j = 4) → ¬ S c j) : SS M N' := h.rf (fun j => hk _ _ (hs _ _ (by omega))) (fun j => hk _ _ (hs _ _ (by omega))) (hk _ _ (hs _ _ (by omega)))
theorem SS.th (h : SS M N) {v : Int32} : SS M (wr N 135 5 v) := h.rf (fun _ => rd_wk (by decide)) (fun _ => rd_wk (by decide)) (rd_wj (by decide))
/-- the planner prepared for the part -/
theorem pc_prep (h : SS M N) (hI : MI N) : Pc (mX3_prepare 110 5 M) (fun q => SS q.1 N ∧ KS SPp M q.1 ∧ ∃ m lc lg, m < 2 ^ nb 5 q.1 ∧ rd q.1 5 13 = Int32.ofNat m ∧ PK 5 m q.1 ∧ Row (nb 5 q.1) m (rd N 136) ∧ mX1_lastCode 5 q.1 = some lc ∧ mX1_lastGauge 5 q.1 = some lg) := by
  obtain ⟨m, h1, h2, h3⟩ := row_at hI h.1
  obtain ⟨lc, lg, e1, e2⟩ := last_some h.1
  refine (pc_prepare (by omega) (pr_9 h.1) h2 h1 h.2.2.2.2 e1 e2).mono (fun q hq => ?_)
  obtain ⟨k1, k2, k3⟩ := hq
  have hb : BL 5 M 5 q.1 := BL.ks k1 (fun c j h1 h2 z => by unfold SPp at z; omega)
  have hg : GL 5 M 5 q.1 := GL.ks k1 (fun c j h1 h2 z => by unfold SPp at z; omega)
  refine ⟨h.cl (fun c j hc => k1 c j (by unfold SPp; omega)) k3, k1, m, lc, lg, by rw [hb.bn]; exact h1, hg.1.trans h2, k2, by rw [hb.bn]; exact h3, hg.2.1.trans e1, hg.2.2.1.trans e2⟩
/-- both laid: what is compared -/
theorem ctx_of {N2 : Mem} (h : SS M N) (hK : PK 5 m M) (hr : row 136 N = row 136 N0) (hB : CBx (nb 5 M) m N0 N2) (hC : CLa (nb 5 M) m N2 0) (hP : Pl g (nb 5 M) m N2) : CTX (w2 g) 5 m M N0 N2 :=
  ⟨hK.1, pr_9 h.1, by rw [hB.2.1, ← hr]; exact h.1, hP.1, hB.2.2.1, hB.2.2.2, hC, hK.2.2.1, hB.2.1⟩
theorem pc_lastNow (h8 : (rd N 136 53).toInt ≤ 8) (h0 : 0 ≤ (rd N 136 53).toInt) : Pc (mX7_lastNow 135 N) (fun r => (rd N 136 53 = 0 ∧ r = 16) ∨ ∃ j : Nat, j < 8 ∧ rd N 136 53 = Int32.ofNat (j + 1) ∧ r = (2 : Int32) * rd N 136 (54 + 4 * j) + rd N 136 (55 + 4 * j)) := by
  unfold mX7_lastNow
  refine Pc.k (fun _ => Pc.i (fun c => Pc.ok (Or.inl ⟨c, rfl⟩)) (fun c => Pc.k (fun _ => ?_)))
  have c : ¬ rd N 136 53 = 0 := c
  have c2 : (rd N 136 53).toInt ≠ 0 := fun z => c (i_eq.mpr z)
  have n1 : ((1 : Int32)).toInt = 1 := rfl
  obtain ⟨j, ej⟩ : ∃ j : Nat, (rd N 136 53).toInt = ((j + 1 : Nat) : Int) := ⟨((rd N 136 53).toInt - 1).toNat, by omega⟩
  have e53 : rd N 136 53 = Int32.ofNat (j + 1) := by rw [i_eq, ej, t_of (by omega)]
  have es : rd N 136 53 - (1 : Int32) = Int32.ofNat j := by
    rw [i_eq, i_sub (by omega) (by omega), t_of (by omega)]; omega
  show Pc (cap (mX7_stepOf 135 (rd N 136 53 - (1 : Int32)) (0 : Int32) N) _) _
  rw [es]
  refine Pc.c (pc_stepOf (j := j) (w := 0) (by omega) (by omega)) (fun r5 e5 => Pc.k (fun _ => ?_))
  show Pc (cap (mX7_stepOf 135 (rd N 136 53 - (1 : Int32)) (1 : Int32) N) _) _
  rw [es]
  refine Pc.c (pc_stepOf (j := j) (w := 1) (by omega) (by omega)) (fun r9 e9 => Pc.ok (Or.inr ⟨j, by omega, e53, ?_⟩))
  rw [e5, e9, show 54 + 4 * j + 0 = 54 + 4 * j by omega, show 54 + 4 * j + 1 = 55 + 4 * j by omega]
/-- the last step: by both -/
theorem lst_of (h : CTX g 5 m M N0 N) (hR : RI (row 136 N)) (m2 : m < 2 ^ nb 5 M) (hm : rd M 5 13 = Int32.ofNat m) (elc : mX1_lastCode 5 M = some lc) (elg : mX1_lastGauge 5 M = some lg) : Pc (mX7_lastNow 135 N) (fun r => ∃ l, r = Int32.ofNat l ∧ l ≤ 16 ∧ LST 5 M N m l lc lg) := by
  have hP := h.2.2.1
  have n8 := nb8 h.2.1
  have m256 := n_256 n8 m2
  have hs : rd M 5 14 = rd N 136 53 := hP.ns
  have hb : 0 ≤ (rd N 136 53).toInt ∧ (rd N 136 53).toInt ≤ 8 := hP.sb
  have h8 : (rd M 5 14).toInt ≤ 8 := by rw [hs]; exact hb.2
  refine (pc_lastNow hb.2 hb.1).mono (fun r hr => ?_)
  have q1 := pc_lastCode (k := 5) h8 lc elc
  have q2 := pc_lastGauge (k := 5) h8 lg elg
  rw [hs] at q1 q2
  rcases hr with ⟨e, er⟩ | ⟨j, hj, e53, er⟩
  · refine ⟨16, er, by omega, Or.inl ⟨rfl, ?_⟩⟩
    rcases q1 with ⟨_, q⟩ | ⟨q, _⟩
    · exact q
    · rw [e, show ((0 : Int32)).toInt = 0 from rfl] at q; omega
  · have t53 : (rd N 136 53).toInt = ((j + 1 : Nat) : Int) := by rw [e53, t_of (by omega)]
    obtain ⟨l, hl, f1, f2, tb, hV⟩ := hR.2.2 j m e53 hj (hP.ma.symm.trans hm) m256
    have f1 : (rd N 136 (54 + 4 * j)).toInt = ((l / 2 : Nat) : Int) := f1
    have f2 : (rd N 136 (55 + 4 * j)).toInt = ((l % 2 : Nat) : Int) := f2
    have hst := hP.st j (by show (j : Int) < (rd N 136 53).toInt; omega)
    have e5 : lc = rd M (5 + 5) j := by
      rcases q1 with ⟨q, _⟩ | ⟨_, q⟩
      · omega
      · rw [q, show (rd N 136 53).toInt.toNat - 1 = j by omega]
    have e6 : lg = rd M (5 + 6) j := by
      rcases q2 with ⟨q, _⟩ | ⟨_, q⟩
      · omega
      · rw [q, show (rd N 136 53).toInt.toNat - 1 = j by omega]
    have s1 : (rd M (5 + 5) j).toInt = 2 * (rd N 136 (54 + 4 * j)).toInt + (rd N 136 (55 + 4 * j)).toInt := hst.1
    have s2 : rd M (5 + 6) j = rd N 136 (56 + 4 * j) := hst.2.1
    have lb : l / 2 < nb 5 M := by
      by_cases q : l / 2 < nb 5 M
      · exact q
      · have h2 : 2 ^ nb 5 M ≤ 2 ^ (l / 2) := Nat.pow_le_pow_right (by decide) (by omega)
        rw [Nat.testBit_lt_two_pow (Nat.lt_of_lt_of_le m2 h2)] at tb
        cases tb
    have el : r = Int32.ofNat l := by
      rw [i_eq, er, i_add, i_mulc (a := (2 : Int32)) (c := 2) rfl (by omega) (by omega), t_of (by omega)]
      · omega
      · rw [i_mulc (a := (2 : Int32)) (c := 2) rfl (by omega) (by omega)]; omega
      · rw [i_mulc (a := (2 : Int32)) (c := 2) rfl (by omega) (by omega)]; omega
    refine ⟨l, el, by omega, Or.inr ⟨by omega, tb, ?_, ?_⟩⟩
    · rw [i_eq, e5, s1, t_of (by omega)]; omega
    · have hlt : m - 2 ^ (l / 2) < 2 ^ nb 5 M := Nat.lt_of_le_of_lt (Nat.sub_le _ _) m2
      obtain ⟨N1, q1, w1, w2, w3⟩ := h.2.2.2.2.2.1 (m - 2 ^ (l / 2)) l hlt (by omega)
      rw [w3, e6, s2]
      have er1 : row 136 N1 = row 136 N := w1.trans h.2.2.2.2.2.2.2.2.symm
      exact (hV N1 (fun j' _ => congrFun er1 j') q1 w2).symm
end ST
end
/-! part 60zzr.answers -/
section
/-! the planner's answers: alike -/
section AN
variable {g : Gm} {n m a b c l : Nat} {M M' N N' N0 : Mem} {lc lg r x : Int32}
theorem SS.sly (h : SS M N) (hk : KS SLy N N') : SS M N' := h.ks hk (fun c j hc z => by unfold SLy at z; omega)
theorem th_row {v : Int32} : row 136 (wr N 135 5 v) = row 136 N := funext (fun _ => rd_wk (by decide))
theorem sly_row (hk : KS SLy N N') : row 136 N' = row 136 N := row_ks hk (fun j z => by unfold SLy at z; omega)
/-- whether there is an order -/
theorem pc_isOrd (hN : NM n m N) : Pc (mX7_isOrder 135 N) (fun r => (r = 0 ∧ ¬ 0 < mn N m) ∨ (r = 1 ∧ 0 < mn N m)) := by
  have hp := z_pow n hN.2.1
  have hm := hN.2.2.2
  unfold mX7_isOrder
  show Pc (chk (okb (52 : Int32) 86) (chk (okb (rd N 136 52) 256) (ite2 ((lg_cmp (rl N 147 ((rd N 136 52)).toNatClampNeg) (0 : Int64)) ≤ 0) (some (0 : Int32)) (some (1 : Int32))))) _
  rw [hN.2.2.1, c_of (by omega)]
  exact Pc.k (fun _ => Pc.k (fun _ => Pc.i (fun c => Pc.ok (Or.inl ⟨rfl, fun z => lg_pos.mpr z c⟩)) (fun c => Pc.ok (Or.inr ⟨rfl, lg_pos.mp c⟩))))
theorem pc_un (h : OKm g N) (hN : NM n m N) : Pc (mX7_unmade 135 N) (fun r => r = Int32.ofNat (cntz m n)) := (pl_unmade h hN).toPc.mono (fun r hr => by
  have := (z_full n hN.2.1 m hN.2.2.2).1
  rw [i_eq, hr, t_of (by omega)])
/-- the class's count for a state that is come to -/
theorem pc_from (hr : rc M a) (ha : a < 256) : Pc (mX3_ordersFrom 110 (Int32.ofNat a) M) (fun v => v = rl M (110 + 19) a) := by
  unfold mX3_ordersFrom mX3_ordersFrom_b24 mX3_ordersFrom_b25
  have ta : (Int32.ofNat a).toInt = (a : Int) := t_of (by omega)
  have ca : (Int32.ofNat a).toNatClampNeg = a := c_of (by omega)
  rw [ca]
  refine Pc.i (fun z => ?_) (fun _ => Pc.i (fun z => ?_) (fun _ => Pc.k (fun _ => Pc.i (fun z => absurd z hr) (fun _ => Pc.i (fun z => absurd z (by decide)) (fun _ => Pc.k (fun _ => Pc.ok rfl))))))
  · have z := i_lt.mp z
    rw [ta, show ((0 : Int32)).toInt = 0 from rfl] at z; omega
  · have z := i_le.mp z
    rw [ta, show ((256 : Int32)).toInt = 256 from rfl] at z; omega
theorem orders_R (h : SS M N) (hI : MI N) : R2 (mX6_orders 0 M) (mX7_orders 135 N) (fun p q => p.2 = q.2 ∧ SS p.1 q.1) := by
  unfold mX6_orders mX7_orders
  refine R2.ml (pc_prep h hI) (fun M3 _ p => ?_)
  obtain ⟨hS, _, m, lc, lg, m2, em, hK, hR, _, _⟩ := p
  have hS : SS M3 N := hS
  have n8 := nb8 (pr_9 hS.1)
  have m256 := n_256 n8 m2
  rw [em]
  refine R2.cl (pc_from hK.1.2.1 m256) (fun v ev => R2.br (fun N1 e1 => ?_))
  have hT : OKm gS N1 := by rw [e1]; exact (hI.th (v := 0)).1.1
  have hN1 : NM (nb 5 M3) m N1 := by rw [e1]; exact (row_th hR).nm
  have er : row 136 N1 = row 136 N := by rw [e1]; exact th_row
  have hS1 : SS M3 N1 := by rw [e1]; exact hS.th
  refine R2.mr ((pc_layOrders hT hN1).and (Fr.pc (vX7_layOrders (KS.rf : KS SLy N1 N1)))) (fun N5 _ p => ?_)
  obtain ⟨⟨_, hN5, _, hO, _⟩, hk⟩ := p
  have hk : KS SLy N1 N5 := hk
  have e52 : rd N5 (135 + 1) ((52 : Int32)).toNatClampNeg = Int32.ofNat m := hN5.2.2.1
  rw [e52, c_of (by omega)]
  refine R2.kr (fun _ => R2.kr (fun _ => R2.ok ⟨?_, hS1.sly hk⟩))
  show v = rl N5 (135 + 12) m
  rw [ev]
  exact cu_cnt hK.1 n8 (by rw [er]; exact hS.1.pb) hO hK.2.1 _ m (Nat.le_refl _) m256 hK.1.2.1
/-- both prepared and laid -/
theorem R2.laid {α β : Type} {R : α → β → Prop} (h : SS M N) (hI : MI N) {K : Mem → Option α} {K' : Mem → Option β} (hk : ∀ M3 N5 m lc lg, SS M3 N5 → m < 2 ^ nb 5 M3 → rd M3 5 13 = Int32.ofNat m → PK 5 m M3 → CTX (w2 gS) 5 m M3 N N5 → NM (nb 5 M3) m N5 → Ald (nb 5 M3) m N5 0 → Al (nb 5 M3) m N5 0 → rd N5 135 5 = rd N 135 5 → mX1_lastCode 5 M3 = some lc → mX1_lastGauge 5 M3 = some lg → Row (nb 5 M3) m (rd N5 136) → R2 (K M3) (K' N5) R) : R2 (cal (mX3_prepare 110 5 M) (fun M3 _ => K M3)) (cal (mX7_layCosts 135 N) (fun N5 _ => K' N5)) R := by
  refine R2.ml (pc_prep h hI) (fun M3 _ p => ?_)
  obtain ⟨hS, _, m, lc, lg, m2, em, hK, hR, e1, e2⟩ := p
  have hS : SS M3 N := hS
  refine R2.mr ((pc_layCosts hI.1 hR.nm).and (Fr.pc (vX7_layCosts (KS.rf : KS SLy N N)))) (fun N5 _ p => ?_)
  obtain ⟨⟨hB, hC, hP, hA⟩, hk5⟩ := p
  have hk5 : KS SLy N N5 := hk5
  exact hk M3 N5 m lc lg (hS.sly hk5) m2 em hK (ctx_of hS hK rfl hB hC hP) hB.1 hA hP.2.2 (hk5 135 5 (by unfold SLy; omega)) e1 e2 (hR.of (fun j => hk5 136 j (by unfold SLy; omega)))
theorem lst_ex (h : CTX g 5 m M N0 N) (hR : RI (row 136 N)) (m2 : m < 2 ^ nb 5 M) (hm : rd M 5 13 = Int32.ofNat m) (elc : mX1_lastCode 5 M = some lc) (elg : mX1_lastGauge 5 M = some lg) (hW : Row n a (rd N 136)) : ∃ l, LST 5 M N m l lc lg := by
  obtain ⟨r, er, _⟩ := pl_last h.2.2.2.1 hW
  obtain ⟨l, _, _, hl⟩ := lst_of h hR m2 hm elc elg r er
  exact ⟨l, hl⟩
/-- the least and the greatest cost of a state, by both -/
theorem CTX.least {k : Nat} (h : CTX g k m M N0 N) (hA : Ald (nb k M) m N 0) (m2 : m < 2 ^ nb k M) (hl : LST k M N m l lc lg) (hx : mX3_costOnward 110 k (Int32.ofNat m) lc lg 1 M = some x) : (0 < mn N m → 0 ≤ x.toInt ∧ x = rd N (135 + 13) (17 * m + l)) ∧ (¬ 0 < mn N m → x = -1) := by
  have n8 := nb8 h.2.1
  have m256 := n_256 n8 m2
  have hq := (h.tot m256 h.1.2.1 hl).1 x hx
  have hd := hA m (by omega) m2 (h.1.2.2.1 m m256 h.1.2.1).2 l hl.vl
  have hz := (z_full (nb k M) (by omega) m m2).1
  have e13 : rd N 148 (17 * m + l) = rd N (135 + 13) (17 * m + l) := rfl
  constructor
  · intro hm
    have hd1 := (hd.1 hm).1
    rw [e13] at hd1
    rcases hq with ⟨_, q⟩ | ⟨q1, q2, q3⟩
    · omega
    · exact ⟨q1, q3.symm⟩
  · intro hm
    have hd1 := hd.2 hm
    rw [e13] at hd1
    rcases hq with ⟨q, _⟩ | ⟨q1, q2, q3⟩
    · exact q
    · rw [q3] at hd1; omega
theorem leastCost_R (h : SS M N) (hI : MI N) : R2 (mX6_leastCost 0 M) (mX7_leastCost 135 N) (fun p q => p.2 = q.2 ∧ SS p.1 q.1) := by
  unfold mX7_leastCost
  refine R2.br (fun N1 e1 => ?_)
  have hI1 : MI N1 := by rw [e1]; exact (hI.th (v := 0)).1
  have hS1 : SS M N1 := by rw [e1]; exact h.th
  unfold mX6_leastCost mX7_leastNow
  simp only [cal_cal]
  refine R2.laid hS1 hI1 (fun M3 N5 m lc lg hS m2 em hK hX hN hA hAl _ elc elg hW => ?_)
  have n8 := nb8 (pr_9 hS.1)
  have m256 := n_256 n8 m2
  obtain ⟨_, _, _, lc', lg', q1, q2, q3, q4, q5⟩ := hK
  rw [elc] at q1
  rw [elg] at q2
  cases q1
  cases q2
  simp only [cal_cap, cal_ite, cal_chk, cal_some]
  refine R2.cr (pc_isOrd hN) (fun r5 p5 => R2.ir (fun c => R2.ok ⟨?_, hS⟩) (fun c => R2.kr (fun _ => R2.cr (lst_of hX hS.2.2.1 m2 em elc elg) (fun r10 p10 => ?_))))
  · -- no order
    have hm : ¬ 0 < mn N5 m := by
      rcases p5 with ⟨_, q⟩ | ⟨q, _⟩
      · exact q
      · rw [q] at c; exact absurd c (by decide)
    have P := lst_ex hX hS.2.2.1 m2 em elc elg hW
    obtain ⟨l, hl⟩ := P
    exact (hX.least hA m2 hl q3).2 hm
  · obtain ⟨l, e10, l16, hl⟩ := p10
    have hm : 0 < mn N5 m := by
      rcases p5 with ⟨q, _⟩ | ⟨_, q⟩
      · exact absurd q c
      · exact q
    have e52 : rd N5 (135 + 1) ((52 : Int32)).toNatClampNeg = Int32.ofNat m := hN.2.2.1
    rw [e52, e10, ix17c (by omega) (by omega)]
    exact R2.kr (fun _ => R2.ok ⟨((hX.least hA m2 hl q3).1 hm).2, hS⟩)
end AN
end
/-! part 60zzs.answers2 -/
section
/-! the greatest cost, the planned steps: alike -/
section AN2
variable {g : Gm} {n m a b c l : Nat} {M M' N N' N0 : Mem} {lc lg r x x1 : Int32}
theorem imax_0 {p q : Int32} : 0 ≤ (imax p q).toInt ↔ 0 ≤ p.toInt ∨ 0 ≤ q.toInt := by
  unfold imax
  by_cases z : p < q
  · rw [if_pos z]
    have z := i_lt.mp z
    omega
  · rw [if_neg z]
    have z := i_nlt z
    omega
theorem pos_fold {x0 : Int32} {o : Nat → Bool} {t : Nat → Int32} : ∀ k, (0 ≤ (foldF x0 o imax t k).toInt ↔ 0 ≤ x0.toInt ∨ ∃ c, c < k ∧ o c = true ∧ 0 ≤ (t c).toInt) := by
  intro k
  induction k with
  | zero => exact ⟨fun h => Or.inl h, fun h => h.elim id (fun ⟨c, hc, _⟩ => by omega)⟩
  | succ k IH =>
    show (0 ≤ (if o k = true then imax (foldF x0 o imax t k) (t k) else foldF x0 o imax t k).toInt ↔ _)
    by_cases q : o k = true
    · rw [if_pos q]
      rw [imax_0, IH]
      constructor
      · rintro ((h | ⟨c, hc, h1, h2⟩) | h)
        · exact Or.inl h
        · exact Or.inr ⟨c, by omega, h1, h2⟩
        · exact Or.inr ⟨k, by omega, q, h⟩
      · rintro (h | ⟨c, hc, h1, h2⟩)
        · exact Or.inl (Or.inl h)
        · by_cases e : c = k
          · subst e; exact Or.inr h2
          · exact Or.inl (Or.inr ⟨c, by omega, h1, h2⟩)
    · rw [if_neg q, IH]
      constructor
      · rintro (h | ⟨c, hc, h1, h2⟩)
        · exact Or.inl h
        · exact Or.inr ⟨c, by omega, h1, h2⟩
      · rintro (h | ⟨c, hc, h1, h2⟩)
        · exact Or.inl h
        · by_cases e : c = k
          · subst e; exact absurd h1 q
          · exact Or.inr ⟨c, by omega, h1, h2⟩
theorem cnb_iff : cnb N a c = true ↔ ¬ rd N 145 (16 * a + c) = 0 := by
  unfold cnb
  show (!decide (rd N 145 (16 * a + c) = 0)) = true ↔ _
  by_cases z : rd N 145 (16 * a + c) = 0
  · rw [decide_eq_true z]
    exact ⟨fun h => absurd h (by decide), fun h => absurd z h⟩
  · rw [decide_eq_false z]
    exact ⟨fun _ => z, fun _ => rfl⟩
theorem CTX.hipos (h : CTX g 5 m M N0 N) (hAl : Al (nb 5 M) m N 0) : ∀ z a, 2 ^ nb 5 M - a ≤ z → a < 256 → rc M a → ∀ l lc lg, LST 5 M N a l lc lg → (0 ≤ (rd N (135 + 14) (17 * a + l)).toInt ↔ 0 < mn N a) := by
  have n8 := nb8 h.2.1
  intro z
  induction z with
  | zero =>
    intro a hz ha hr
    have := (h.1.2.2.1 a ha hr).1
    omega
  | succ z IH =>
    intro a hz ha hr l lc lg hl
    have hn := h.1.2.2.1 a ha hr
    have l16 : l ≤ 16 := by rcases hl with ⟨e, _⟩ | ⟨e, _⟩ <;> omega
    have cl := h.2.2.2.2.2.2.1 a (by omega) hn.1 hn.2 l hl.vl
    have G := (hAl a (by omega) hn.1 hn.2).2.2.2
    rw [cl.2, G]
    unfold highF
    rw [pos_fold]
    have e0 : 0 ≤ (if a = 2 ^ nb 5 M - 1 then (0 : Int32) else -1000000).toInt ↔ a = 2 ^ nb 5 M - 1 := by
      by_cases q : a = 2 ^ nb 5 M - 1
      · rw [if_pos q]; exact ⟨fun _ => q, fun _ => by decide⟩
      · rw [if_neg q]; exact ⟨fun z => absurd z (by decide), fun z => absurd z q⟩
    rw [e0]
    have e1 : ∀ c, c < 2 * nb 5 M → cnb N a c = true → (0 ≤ (cst N a l c + rd N (135 + 14) (17 * (a ||| 2 ^ (c / 2)) + c)).toInt ↔ 0 < mn N (a ||| 2 ^ (c / 2))) := by
      intro c hc ho
      have ho' : op M a c = true := by rw [cu_op h.1 h.pb h.2.2.2.2.1 ha hr hc]; exact ho
      have st := h.1.step n8 ha hr (by omega) ho'
      have hb := cst_bd (a := a) (l := l) (c := c) h.2.2.2.1 ha l16 (by omega)
      have hk := (h.kb ha hr c hc ho').2
      have hz8 := (z_full (nb 5 M) (by omega) (a ||| 2 ^ (c / 2)) st.2.2.2.1).1
      have ih := IH _ (by omega) st.2.2.2.2.1 st.2.2.2.2.2 c _ _ (h.lst ha hr (by omega) ho')
      rw [← ih]
      rcases hk with ⟨_, q1, q2⟩ | ⟨q1, q2, q3⟩
      · rw [i_add (by omega) (by omega)]; omega
      · rw [q3, i_add (by omega) (by omega)]; omega
    constructor
    · rintro (h1 | ⟨c, hc, h1, h2⟩)
      · exact Or.inl h1
      · exact Or.inr ⟨c, hc, cnb_iff.mp h1, (e1 c hc h1).mp h2⟩
    · rintro (h1 | ⟨c, hc, h1, h2⟩)
      · exact Or.inl h1
      · have h1 := cnb_iff.mpr h1
        exact Or.inr ⟨c, hc, h1, (e1 c hc h1).mpr h2⟩
theorem CTX.most (h : CTX g 5 m M N0 N) (hAl : Al (nb 5 M) m N 0) (m2 : m < 2 ^ nb 5 M) (hl : LST 5 M N m l lc lg) (hx : mX3_costOnward 110 5 (Int32.ofNat m) lc lg 0 M = some x) : (0 < mn N m → x = rd N (135 + 14) (17 * m + l)) ∧ (¬ 0 < mn N m → x = -1) := by
  have n8 := nb8 h.2.1
  have m256 := n_256 n8 m2
  have hq := (h.tot m256 h.1.2.1 hl).2 x hx
  have hp := h.hipos hAl _ m (Nat.le_refl _) m256 h.1.2.1 l lc lg hl
  have hz := (z_full (nb 5 M) (by omega) m m2).1
  rw [← hp]
  rcases hq with ⟨q0, q1, q2⟩ | ⟨q1, q2, q3⟩
  · exact ⟨fun z => by omega, fun _ => q0⟩
  · exact ⟨fun _ => q3.symm, fun z => by rw [q3] at z; omega⟩
theorem greatestCost_R (h : SS M N) (hI : MI N) : R2 (mX6_greatestCost 0 M) (mX7_greatestCost 135 N) (fun p q => p.2 = q.2 ∧ SS p.1 q.1) := by
  unfold mX7_greatestCost
  refine R2.br (fun N1 e1 => ?_)
  have hI1 : MI N1 := by rw [e1]; exact (hI.th (v := 0)).1
  have hS1 : SS M N1 := by rw [e1]; exact h.th
  unfold mX6_greatestCost
  refine R2.laid hS1 hI1 (fun M3 N5 m lc lg hS m2 em hK hX hN hA hAl _ elc elg hW => ?_)
  have n8 := nb8 (pr_9 hS.1)
  have m256 := n_256 n8 m2
  obtain ⟨_, _, _, lc', lg', q1, q2, q3, q4, q5⟩ := hK
  rw [elc] at q1
  rw [elg] at q2
  cases q1
  cases q2
  refine R2.cr (pc_isOrd hN) (fun r5 p5 => R2.ir (fun c => R2.ok ⟨?_, hS⟩) (fun c => R2.kr (fun _ => R2.cr (lst_of hX hS.2.2.1 m2 em elc elg) (fun r10 p10 => ?_))))
  · have hm : ¬ 0 < mn N5 m := by
      rcases p5 with ⟨_, q⟩ | ⟨q, _⟩
      · exact q
      · rw [q] at c; exact absurd c (by decide)
    obtain ⟨l, hl⟩ := lst_ex hX hS.2.2.1 m2 em elc elg hW
    exact (hX.most hAl m2 hl q4).2 hm
  · obtain ⟨l, e10, l16, hl⟩ := p10
    have hm : 0 < mn N5 m := by
      rcases p5 with ⟨q, _⟩ | ⟨_, q⟩
      · exact absurd q c
      · exact q
    have e52 : rd N5 (135 + 1) ((52 : Int32)).toNatClampNeg = Int32.ofNat m := hN.2.2.1
    rw [e52, e10, ix17c (by omega) (by omega)]
    exact R2.kr (fun _ => R2.ok ⟨(hX.most hAl m2 hl q4).1 hm, hS⟩)
/-- the plan's length, the plan's steps -/
theorem CTX.plan (h : CTX g 5 m M N0 N) (hA : Ald (nb 5 M) m N 0) (m2 : m < 2 ^ nb 5 M) (hK : PK 5 m M) (elc : mX1_lastCode 5 M = some lc) (elg : mX1_lastGauge 5 M = some lg) (hl : LST 5 M N m l lc lg) : (¬ 0 < mn N m → rd M 110 3 = -1) ∧ (0 < mn N m → rd M 110 3 = Int32.ofNat (cntz m (nb 5 M)) ∧ ∀ i, i < cntz m (nb 5 M) → ∃ c, rd M (110 + 1) i = Int32.ofNat c ∧ RCh (nb 5 M) N i m l c) := by
  have n8 := nb8 h.2.1
  have m256 := n_256 n8 m2
  obtain ⟨_, _, _, lc', lg', q1, q2, q3, q4, q5⟩ := hK
  rw [elc] at q1
  rw [elg] at q2
  cases q1
  cases q2
  have hL := h.least hA m2 hl q3
  constructor
  · intro hm
    rcases q5 with ⟨_, q⟩ | ⟨q, _⟩
    · exact q
    · exact absurd (hL.2 hm) q
  · intro hm
    have e := hL.1 hm
    rcases q5 with ⟨q, _⟩ | ⟨q, hC⟩
    · rw [q, show ((-1 : Int32)).toInt = -1 from rfl] at e; omega
    · have hz := (z_full (nb 5 M) (by omega) m m2).1
      have P := ch_plan h hA 8 0 m l lc lg _ m256 h.1.2.1 hl e.1 e.2 hm hz hC
      refine ⟨by rw [P.1, Nat.zero_add], fun i hi => ?_⟩
      obtain ⟨c, h1, h2⟩ := P.2 i hi
      rw [Nat.zero_add] at h1
      exact ⟨c, h1, h2⟩
theorem plannedSteps_R (h : SS M N) (hI : MI N) : R2 (mX6_plannedSteps 0 M) (mX7_plannedSteps 135 N) (fun p q => p.2 = q.2 ∧ SS p.1 q.1) := by
  unfold mX6_plannedSteps mX7_plannedSteps
  refine R2.ml (pc_prep h hI) (fun M3 _ p => ?_)
  obtain ⟨hS, _, m, lc, lg, m2, em, hK, hR, elc, elg⟩ := p
  have hS : SS M3 N := hS
  have n8 := nb8 (pr_9 hS.1)
  have m256 := n_256 n8 m2
  refine R2.br (fun N1 e1 => ?_)
  have hI1 : MI N1 := by rw [e1]; exact (hI.th (v := 0)).1
  have hS1 : SS M3 N1 := by rw [e1]; exact hS.th
  have hR1 : Row (nb 5 M3) m (rd N1 136) := by rw [e1]; exact row_th hR
  refine R2.mr ((pc_layOrders hI1.1 hR1.nm).and (Fr.pc (vX7_layOrders (KS.rf : KS SLy N1 N1)))) (fun N5 _ p => ?_)
  obtain ⟨⟨hO5, hN5, _, hO, _⟩, hk⟩ := p
  have hk : KS SLy N1 N5 := hk
  have hO5 : OKm (w2 gS) N5 := hO5
  -- the costs could be laid as well
  obtain ⟨y, ey, _⟩ := sX7_layCosts' hI1.1 hR1.nm
  have P := pc_layCosts hI1.1 hR1.nm y ey
  have ky : KS SLy N1 y.1 := vX7_layCosts (KS.rf : KS SLy N1 N1) y ey
  have hX := ctx_of hS1 hK rfl P.1 P.2.1 P.2.2.1
  obtain ⟨l, hl⟩ := lst_ex hX (by rw [sly_row ky]; exact hS1.2.2.1) m2 em elc elg (hR1.of (fun j => ky 136 j (by unfold SLy; omega)))
  have hpl := hX.plan P.2.2.2 m2 hK elc elg hl
  have emn : mn N5 m = mn y.1 m := by
    have a1 := cu_cnt hK.1 n8 hS1.1.pb hO hK.2.1 _ m (Nat.le_refl _) m256 hK.1.2.1
    have a2 := cu_cnt hK.1 n8 hS1.1.pb P.1.2.2.1 hK.2.1 _ m (Nat.le_refl _) m256 hK.1.2.1
    unfold mn
    show (rl N5 (135 + 12) m).toInt = (rl y.1 (135 + 12) m).toInt
    rw [← a1, ← a2]
  rw [← emn] at hpl
  refine R2.cr (pc_isOrd hN5) (fun r7 p7 => R2.ir (fun c => R2.ok ⟨?_, hS1.sly hk⟩) (fun c => R2.cr (pc_un hO5 hN5) (fun r11 e11 => R2.ok ⟨?_, hS1.sly hk⟩)))
  · rcases p7 with ⟨_, q⟩ | ⟨q, _⟩
    · exact hpl.1 q
    · rw [q] at c; exact absurd c (by decide)
  · rcases p7 with ⟨q, _⟩ | ⟨_, q⟩
    · exact absurd q c
    · exact (hpl.2 q).1.trans e11.symm
end AN2
end
/-! part 60zzt.planned -/
section
/-! planned: alike -/
def XR {β : Type} (num : Nat → Int32) (p : Mem × (β ⊕ Nat)) (q : Mem × β) : Prop := (∀ v, p.2 = Sum.inl v → rd q.1 135 5 = 0 ∧ v = q.2) ∧ (∀ e, p.2 = Sum.inr e → rd q.1 135 5 = num e)
section PD2
variable {g : Gm} {n m a b c l : Nat} {M M' N N' N0 : Mem} {lc lg r x x1 : Int32} {num : Nat → Int32}
theorem XR.inl {β : Type} {v w : β} (e : rd N 135 5 = 0) (h : v = w) : XR num (M, Sum.inl v) (N, w) := ⟨fun v' e' => by cases e'; exact ⟨e, h⟩, fun e' q => by cases q⟩
theorem XR.inr {β : Type} {e : Nat} {w : β} (h : rd N 135 5 = num e) : XR num (M, Sum.inr e) (N, w) := ⟨fun v' e' => (by cases e'), fun e' q => (by cases q; exact h)⟩
theorem pc_l57 (hN : NM n m N) (hK : OKm g N) (hO : LOa n m N0 N 0) {i : Nat} (hi : i < 100) : ∀ (j fuel k a l c0 : Nat), k + j = i → a < 2 ^ n → a &&& m = m → l ≤ 16 → RCh n N j a l c0 → Pc (mX7_planned_l57 135 fuel (Int32.ofNat i) (Int32.ofNat a) (Int32.ofNat l) (Int32.ofNat k) N) (fun q => q.1 = N ∧ q.2 = Int32.ofNat c0) := by
  have hn := hN.2.1
  have hp := z_pow n hn
  intro j
  induction j with
  | zero =>
    intro fuel k a l c0 hk ha hb hl hC
    cases fuel with
    | zero => intro q e; cases e
    | succ fuel =>
      show Pc (mX7_planned_b57 135 (mX7_planned_l57 135 fuel) (Int32.ofNat i) (Int32.ofNat a) (Int32.ofNat l) (Int32.ofNat k) N) _
      unfold mX7_planned_b57
      have ti : (Int32.ofNat i).toInt = (i : Int) := t_of (by omega)
      have tk : (Int32.ofNat k).toInt = (k : Int) := t_of (by omega)
      refine Pc.i (fun z => by have z := i_lt.mp z; omega) (fun _ => ?_)
      refine Pc.c (pc_bestR hN hK ha hl (hO a (by omega) ha hb)) (fun r19 p => ?_)
      have hC : bst n N a l c0 := hC
      rcases p with ⟨c, e, hc⟩ | ⟨_, hno⟩
      · have ec := bst_u hc hC
        subst ec
        refine Pc.b (fun x2 _ => Pc.b (fun x4 e4 => ?_))
        have e4' : x4 = Int32.ofNat (k + 1) := by rw [e4]; exact (Int32.ofNat_add k 1).symm
        rw [e4', e]
        cases fuel with
        | zero => intro q e; cases e
        | succ fuel =>
          show Pc (mX7_planned_b57 135 (mX7_planned_l57 135 fuel) (Int32.ofNat i) x2 (Int32.ofNat c) (Int32.ofNat (k + 1)) N) _
          unfold mX7_planned_b57
          have tk1 : (Int32.ofNat (k + 1)).toInt = ((k + 1 : Nat) : Int) := t_of (by omega)
          exact Pc.i (fun _ => Pc.ok ⟨rfl, rfl⟩) (fun z => by have z := i_nlt z; omega)
      · exact absurd hC.1 (hno c0)
  | succ j IH =>
    intro fuel k a l c0 hk ha hb hl hC
    cases fuel with
    | zero => intro q e; cases e
    | succ fuel =>
      show Pc (mX7_planned_b57 135 (mX7_planned_l57 135 fuel) (Int32.ofNat i) (Int32.ofNat a) (Int32.ofNat l) (Int32.ofNat k) N) _
      unfold mX7_planned_b57
      have ti : (Int32.ofNat i).toInt = (i : Int) := t_of (by omega)
      have tk : (Int32.ofNat k).toInt = (k : Int) := t_of (by omega)
      refine Pc.i (fun z => by have z := i_lt.mp z; omega) (fun _ => ?_)
      obtain ⟨c1, h1, h2⟩ := hC
      have hOa := hO a (by omega) ha hb
      refine Pc.c (pc_bestR hN hK ha hl hOa) (fun r19 p => ?_)
      rcases p with ⟨c, e, hc⟩ | ⟨_, hno⟩
      · have ec := bst_u hc h1
        subst ec
        have hz := z_set n hn a ha (c / 2) (by have := hc.1.1; omega) ((hOa.1 c hc.1.1).2 hc.1.2.1)
        have c16 : c < 16 := by have := hc.1.1; omega
        refine Pc.b (fun x2 e2 => Pc.b (fun x4 e4 => ?_))
        have e4' : x4 = Int32.ofNat (k + 1) := by rw [e4]; exact (Int32.ofNat_add k 1).symm
        rw [e, f_half c (by omega), f_or a (by omega) (c / 2) (by omega)] at e2
        rw [e4', e2, e]
        exact IH fuel (k + 1) _ c c0 (by omega) hz.2.2.1 (z_sup hb) (by omega) h2
      · exact absurd h1.1 (hno c1)
theorem planned_R (h : SS M N) (hI : MI N) : R2 (mX6_planned 0 x1 M) (mX7_planned 135 x1 N) (fun p q => XR (fun _ => 1) p q ∧ SS p.1 q.1) := by
  unfold mX6_planned mX7_planned
  refine R2.laid h hI (fun M3 N5 m lc lg hS m2 em hK hX hN hA hAl _ elc elg hW => ?_)
  have n8 := nb8 (pr_9 hS.1)
  have m256 := n_256 n8 m2
  obtain ⟨l, hl⟩ := lst_ex hX hS.2.2.1 m2 em elc elg hW
  have hpl := hX.plan hA m2 hK elc elg hl
  have n0 : ((0 : Int32)).toInt = 0 := rfl
  have nm1 : ((-1 : Int32)).toInt = -1 := rfl
  have hz := (z_full (nb 5 M3) (by omega) m m2).1
  -- no such step: both throw
  have no : ∀ {x : Option (Mem × Int32)}, x = mX7_planned_b33 135 x1 (0 : Int32) N5 → R2 (some (M3, Sum.inr 1)) x (fun p q => XR (fun _ => 1) p q ∧ SS p.1 q.1) := by
    intro x ex
    rw [ex]
    unfold mX7_planned_b33
    refine R2.mr (pc_good (x := 0) (N := N5)) (fun N10 r9 p => ?_)
    rcases p with ⟨_, e⟩ | ⟨z, _⟩
    · cases e
      refine R2.ir (fun _ => R2.ok ⟨XR.inr rd_we, hS.th⟩) (fun z => absurd rfl z)
    · exact absurd rfl z
  unfold mX6_planned_b32
  -- where the reference has no step
  have none : (x1.toInt < 0 ∨ (rd M3 110 3).toInt ≤ x1.toInt) → ∀ {y : Option (Mem × Int32)}, R2 (some (M3, Sum.inr 1)) y (fun p q => XR (fun _ => 1) p q ∧ SS p.1 q.1) → R2 (ite2 (x1 < 0) (some (M3, Sum.inr 1)) (ite2 ((rd M3 110 3) ≤ x1) (some (M3, Sum.inr 1)) (ite2 (x1 < (8 : Int32)) (chk (okb x1 8) (some (M3, Sum.inl (rd M3 (110 + 1) (x1).toNatClampNeg)))) (some (M3, Sum.inr 1))))) y (fun p q => XR (fun _ => 1) p q ∧ SS p.1 q.1) := by
    intro hx y hy
    refine R2.il (fun _ => hy) (fun c1 => R2.il (fun _ => hy) (fun c2 => ?_))
    have c1 := i_nlt c1
    have c2 := i_nle c2
    exfalso
    rw [n0] at c1
    omega
  refine R2.cr (pc_isOrd hN) (fun r5 p5 => R2.ir (fun c => ?_) (fun c => ?_))
  · have hm : ¬ 0 < mn N5 m := by
      rcases p5 with ⟨_, q⟩ | ⟨q, _⟩
      · exact q
      · rw [q] at c; exact absurd c (by decide)
    refine none ?_ (no rfl)
    rw [hpl.1 hm, nm1]
    omega
  · have hm : 0 < mn N5 m := by
      rcases p5 with ⟨q, _⟩ | ⟨_, q⟩
      · exact absurd q c
      · exact q
    obtain ⟨hlen, hst⟩ := hpl.2 hm
    refine R2.cr (pc_un hX.2.2.2.1 hN) (fun r24 e24 => ?_)
    have t24 : (r24 - (1 : Int32)).toInt = (cntz m (nb 5 M3) : Int) - 1 := by
      have n1 : ((1 : Int32)).toInt = 1 := rfl
      have t : r24.toInt = (cntz m (nb 5 M3) : Int) := by rw [e24, t_of (by omega)]
      rw [i_sub (by omega) (by omega)]; omega
    refine R2.cr (pc_btw (Int32.toInt_toInt64 _) rfl (Int32.toInt_toInt64 _)) (fun r27 p27 => ?_)
    have l0 : ((0 : Int64)).toInt = 0 := rfl
    rw [t24] at p27
    have tl : (rd M3 110 3).toInt = (cntz m (nb 5 M3) : Int) := by rw [hlen, t_of (by omega)]
    refine R2.ir (fun c27 => none ?_ (no rfl)) (fun c27 => ?_)
    · rcases p27 with ⟨q, _⟩ | ⟨_, q⟩
      · rw [q] at c27; exact absurd c27 (by decide)
      · rw [tl]; omega
    · have hx : 0 ≤ x1.toInt ∧ x1.toInt ≤ (cntz m (nb 5 M3) : Int) - 1 := by
        rcases p27 with ⟨_, q⟩ | ⟨q, _⟩
        · exact q
        · exact absurd q c27
      have ex : x1 = Int32.ofNat x1.toInt.toNat := o_of hx.1
      obtain ⟨i, ei⟩ : ∃ i : Nat, x1.toInt.toNat = i := ⟨_, rfl⟩
      rw [ei] at ex
      have hi : i < cntz m (nb 5 M3) := by omega
      obtain ⟨c0, e0, hR0⟩ := hst i hi
      have n8' : ((8 : Int32)).toInt = 8 := rfl
      refine R2.il (fun z => by have z := i_lt.mp z; rw [n0] at z; omega) (fun _ => R2.il (fun z => by have z := i_le.mp z; omega) (fun _ => R2.il (fun _ => R2.kl (fun _ => ?_)) (fun z => by have z := i_nlt z; omega)))
      unfold mX7_planned_b33
      refine R2.mr (pc_good (x := 1) (N := N5)) (fun N10 r9 p => ?_)
      rcases p with ⟨z, _⟩ | ⟨_, e⟩
      · exact absurd z (by decide)
      cases e
      refine R2.ir (fun z => absurd z (by decide)) (fun _ => R2.kr (fun _ => R2.br (fun s0 es => ?_)))
      have hS10 : SS M3 (wr N5 135 5 0) := hS.th
      have e52 : s0 = Int32.ofNat m := by
        rw [es]
        show rd (wr N5 135 5 0) 136 52 = _
        rw [rd_wk (by decide)]; exact hN.2.2.1
      have hX10 : CTX (w2 gS) 5 m M3 N (wr N5 135 5 0) := by
        obtain ⟨t1, t2, t3, t4, t5, t6, t7, t8, t9⟩ := hX
        have e : ∀ k j, k ≠ 135 → rd (wr N5 135 5 0) k j = rd N5 k j := fun k j hk => rd_wk hk
        refine ⟨t1, t2, hS10.1, th_put t4, t5.of (fun _ _ _ _ => e _ _ (by decide)) (fun _ _ => rfl), fun a c ha hc => by rw [e _ _ (by decide)]; exact t6 a c ha hc, fun b hb h1 h2 l hl => ?_, t8, th_row.trans t9⟩
        exact (t7 b hb h1 h2 l hl).of (by omega) h1 (t5 b hb h1 h2) (fun j => e _ _ (by decide)) (fun j => e _ _ (by decide)) (fun j => e _ _ (by decide)) (fun b c _ _ => ⟨e _ _ (by decide), e _ _ (by decide)⟩) ⟨e _ _ (by decide), e _ _ (by decide)⟩
      rw [e52]
      refine R2.cr (lst_of hX10 hS10.2.2.1 m2 em elc elg) (fun r15 p15 => ?_)
      obtain ⟨l', e15, l16, hl'⟩ := p15
      rw [e15]
      have hA10 : Ald (nb 5 M3) m (wr N5 135 5 0) 0 := by
        intro b h1 h2 h3 l hv
        refine (hA b h1 h2 h3 l hv).of (hAl b h1 h2 h3) h2 (by omega) (fun j => rd_wk (by decide)) (fun _ => rfl) (cst_same (fun j => rd_wk (by decide)) (fun j => rd_wk (by decide))) (fun b' c' _ _ => rd_wk (by decide))
      have hm10 : 0 < mn (wr N5 135 5 0) m := hm
      obtain ⟨_, hst10⟩ := (hX10.plan hA10 m2 hK elc elg hl').2 hm10
      obtain ⟨c1, e1, hR1⟩ := hst10 i hi
      have hN10 : NM (nb 5 M3) m (wr N5 135 5 0) := ⟨(rd_wk (by decide)).trans hN.1, hN.2.1, (rd_wk (by decide)).trans hN.2.2.1, hN.2.2.2⟩
      rw [ex, c_of (by omega)]
      intro p q hp hq
      cases hp
      obtain ⟨f1, f2⟩ := pc_l57 (i := i) hN10 hX10.2.2.2.1 hX10.2.2.2.2.1 (by omega) i 5000 0 m l' c1 (by omega) m2 (Nat.and_self m) l16 hR1 q hq
      obtain ⟨q1, q2⟩ := q
      have f1 : q1 = _ := f1
      have f2 : q2 = _ := f2
      subst f1
      subst f2
      exact ⟨XR.inl rd_we e1, hS10⟩
end PD2
end
/-! part 60zzu.fold -/
section
/-! remembering; a step made: alike -/
section FO
variable {g : Gm} {n m a b s c l e : Nat} {M M' N N' N0 : Mem} {lc lg r x x1 : Int32}
theorem hi_rem (h : HI N) (hr : RI (row 136 N)) (h4 : rd N 135 4 = Int32.ofNat e) (he : e ≤ 10) : Pc (mX7_remember 135 N) (fun q => HI q.1) := by
  refine (pc_remR h4 he).mono (fun q hq => ?_)
  obtain ⟨_, hq⟩ := hq
  intro i hi hlt
  rcases hq with ⟨lt, n4, nr, nw⟩ | ⟨e10, n4, nr, nw⟩
  · rw [n4, t_of (by omega)] at hlt
    by_cases q1 : i = e
    · subst q1
      exact hr.cong (fun p hp => nw p hp)
    · refine (h i hi (by rw [h4, t_of (by omega)]; omega)).cong (fun p hp => nr _ (by omega))
  · rw [n4, show ((10 : Int32)).toInt = 10 from rfl] at hlt
    by_cases q1 : i = 9
    · subst q1
      exact hr.cong (fun p hp => nw p hp)
    · refine (h (i + 1) (by omega) (by rw [h4, t_of (by omega)]; omega)).cong (fun p hp => ?_)
      show rd q.1 139 (86 * i + p) = rd N 139 (86 * (i + 1) + p)
      rw [nr _ (by omega), show 86 * i + p + 86 = 86 * (i + 1) + p by omega]
/-- both remember: what both hold stays -/
theorem rem_S (h : SS M N) : R2 (mX0_remember 21 5 M) (mX7_remember 135 N) (fun p q => SS p.1 q.1 ∧ KS SHc M p.1 ∧ KS SHi N q.1) := by
  obtain ⟨e, o, h4, h2, h1, he, ho, hr⟩ := id h.2.1
  intro p q hp hq
  obtain ⟨r1, r2, r3⟩ := rem_R h.2.1 h.1 p q hp hq
  have hi := hi_rem h.2.2.2.1 h.2.2.1 h4 he q hq
  have kl : KL M p.1 := lX0_remember (k0 := 21) (k1 := 5) (KL.rf : KL M M) p hp
  have er : row 136 q.1 = row 136 N := row_ks r3 (fun j z => by unfold SHi at z; omega)
  refine ⟨⟨?_, r1, by rw [er]; exact h.2.2.1, hi, h.2.2.2.2.ks r2 (fun c j _ _ _ z => by unfold SHc at z; omega) (fun j => kl.rl j)⟩, r2, r3⟩
  rw [er]
  exact h.1.ks r2 (fun c j _ _ z => by unfold SHc at z; omega)
/-- a state with another row -/
theorem SS.row {f : Nat → Int32} (h : SS M N) (hP : PR 5 M' f) (ef : row 136 N' = f) (hR : RI f) (hc : ∀ c j, c = 21 ∨ (23 ≤ c ∧ c < 103) → rd M' c j = rd M c j) (hn : ∀ c j, c = 139 ∨ (c = 135 ∧ j = 4) → rd N' c j = rd N c j) (hv : PV M') : SS M' N' := by
  refine ⟨by rw [ef]; exact hP, h.2.1.ks hc hn, by rw [ef]; exact hR, fun i hi hlt => ?_, hv⟩
  rw [hn 135 4 (Or.inr ⟨rfl, rfl⟩)] at hlt
  have eq : (fun j => rd N' 139 (86 * i + j)) = (fun j => rd N 139 (86 * i + j)) := funext (fun j => hn _ _ (Or.inl rfl))
  rw [eq]; exact h.2.2.2.1 i hi hlt
/-- the gauge that the class finds holds in every state with these legs -/
theorem gauge_Vr {f : Nat → Int32} (hP : PR 5 M f) (ha : a < 2 ^ nb 5 M) (hc : c < 2 * nb 5 M) {x : Mem × Int32} (hx : cal (mX2_layStep 103 5 (Int32.ofNat a) (Int32.ofNat c) M) (fun M1 _ => cap (mX2_reachToBack 103 M1) (fun r => some (M1, r))) = some x) : GVr f a c x.2 := by
  intro N hN q e'
  have hG : PG 5 M (row 136 N) := hP.pb.pg.congr (fun j hj => hN j hj)
  have hn : (rd N 136 0).toInt = (nb 5 M : Int) := by rw [hN 0 (by omega)]; exact hP.pb.bn
  have h := gaugeOf_G (k := 103) (b := c / 2) (s := c % 2) (by omega) hG hn (by omega) (by omega) ha
  rw [show 2 * (c / 2) + c % 2 = c by omega] at h
  exact ((h x q hx e').1).symm
theorem makeStep_R (h : SS M N) (hR : Row (nb 5 M) m (rd N 136)) (hm : rd M 5 13 = Int32.ofNat m) (hb : b < nb 5 M) (hs : s < 2) (tb : m.testBit b = false) : R2 (mX6_makeStep 0 (Int32.ofNat (2 * b + s)) M) (mX7_foldNow 135 (Int32.ofNat b) (Int32.ofNat s) N) (fun p q => p.2 = q.2 ∧ SS p.1 q.1 ∧ rd q.1 135 5 = rd N 135 5) := by
  have n8 := nb8 (pr_9 h.1)
  have m2 := hR.2.2.2.1
  have m256 := n_256 n8 m2
  have hn : (rd N 136 0).toInt = (nb 5 M : Int) := h.1.pb.bn
  have hQ : SQ (nb 5 M) (row 136 N) := h.2.2.1.2.1 _ hn
  obtain ⟨_, _, _, _, _, k, e53, hk, _⟩ := hR
  have hz := z_set (nb 5 M) (by omega) m m2 b hb tb
  have k8 : k < 8 := by omega
  have n11 : ((1 : Int32)).toInt = 1 := rfl
  unfold mX6_makeStep mX7_foldNow
  intro p q hp hq
  obtain ⟨M3, r2, p1, p2⟩ := cal_s hp
  obtain ⟨M6, _, p3, p4⟩ := cal_s p2
  obtain ⟨M9, r8, p5, p6⟩ := cal_s p4
  obtain ⟨M12, _, p7, p8⟩ := cal_s p6
  cases p8
  obtain ⟨N3, q2, u1, u2⟩ := cal_s hq
  have u2 := (chk_s u2).2
  obtain ⟨N7, q6, u3, u4⟩ := cal_s u2
  obtain ⟨N10, _, u5, u6⟩ := cal_s u4
  -- the cost
  obtain ⟨c1, c2, c3⟩ := costNow_R h.1 hn hQ hb hs hm m2 _ _ p1 u1
  have c1 : r2 = q2 := c1
  have c2 : KS (SPs 103) M M3 := c2
  have c3 : KS SRl N N3 := c3
  have l3 : KL M M3 := lX6_costNow (k0 := 0) (KL.rf : KL M M) _ p1
  have S3 : SS M3 N3 := (h.pl c2 l3 (fun c j z => by unfold SPs at z; omega)).ks c3 (fun c j hc z => by unfold SRl at z; omega)
  have b3 : BL 5 M 5 M3 := BL.ks c2 (fun c j h1 h2 z => by unfold SPs at z; omega)
  have e52 : rd N3 (135 + 1) ((52 : Int32)).toNatClampNeg = Int32.ofNat m := by
    show rd N3 136 52 = _
    rw [c3 136 52 (by unfold SRl; omega)]
    exact h.1.ma.symm.trans hm
  rw [e52] at u3
  -- what a gauge writes in the reference
  have hn3 : (rd N3 136 0).toInt = (nb 5 M : Int) := by rw [c3 136 0 (by unfold SRl; omega)]; exact hn
  have k7 : KS SLy N3 N7 := vX7_gaugeOf (KS.rf : KS SLy N3 N3) _ u3
  have S37 : SS M3 N7 := S3.sly k7
  obtain ⟨S6, k6, k10⟩ := rem_S S37 _ _ p3 u5
  have S6 : SS M6 N10 := S6
  have k6 : KS SHc M3 M6 := k6
  have k10 : KS SHi N7 N10 := k10
  have b6 : BL 5 M3 5 M6 := BL.ks k6 (fun c j h1 h2 z => by unfold SHc at z; omega)
  have er7 : row 136 N7 = row 136 N3 := sly_row k7
  have er10 : row 136 N10 = row 136 N7 := row_ks k10 (fun j z => by unfold SHi at z; omega)
  have P6 : PR 5 M6 (row 136 N3) := by rw [← er7, ← er10]; exact S6.1
  have m6 : rd M6 5 13 = Int32.ofNat m := by
    rw [k6 5 13 (by unfold SHc; omega), c2 5 13 (by unfold SPs; omega)]; exact hm
  unfold mX6_gaugeNow at p5
  rw [m6] at p5
  have en6 : nb 5 M6 = nb 5 M := b6.bn.trans b3.bn
  obtain ⟨g1, g2, _⟩ := gaugeOf_G (k := 103) (k1 := 5) (b := b) (s := s) (by omega) P6.pb.pg hn3 hb hs m2 _ _ p5 u3
  have g1 : r8 = q6 := g1
  have g2 : KS (SPs 103) M6 M9 := g2
  have l9 : KL M6 M9 := by
    have := lX6_gaugeNow (k0 := 0) (x1 := Int32.ofNat (2 * b + s)) (KL.rf : KL M6 M6) (M9, r8) (by unfold mX6_gaugeNow; rw [m6]; exact p5)
    exact this
  have S9 : SS M9 N10 := S6.pl g2 l9 (fun c j z => by unfold SPs at z; omega)
  have b9 : BL 5 M6 5 M9 := BL.ks g2 (fun c j h1 h2 z => by unfold SPs at z; omega)
  have hGV : GVr (row 136 N10) m (2 * b + s) r8 := gauge_Vr (M := M6) (x := (M9, r8)) S6.1 (by rw [en6]; exact m2) (by rw [en6]; omega) p5
  have m9 : rd M9 5 13 = Int32.ofNat m := (g2 5 13 (by unfold SPs; omega)).trans m6
  -- the number of steps
  have e53' : ∀ T : Mem, SS M9 T → (∀ j, rd T 136 j = rd N10 136 j) → True := fun _ _ _ => trivial
  have f53 : rd N10 136 53 = Int32.ofNat k := by
    have a1 : rd N10 136 53 = rd N7 136 53 := congrFun er10 53
    have a2 : rd N7 136 53 = rd N3 136 53 := congrFun er7 53
    rw [a1, a2, c3 136 53 (by unfold SRl; omega)]; exact e53
  have f52 : rd N10 136 52 = Int32.ofNat m := S9.1.ma.symm.trans m9
  have d14 : rd M9 5 14 = Int32.ofNat k := by
    have a : rd M9 5 14 = rd N10 136 53 := S9.1.ns
    rw [a, f53]
  have tk : (Int32.ofNat k).toInt = (k : Int) := t_of (by omega)
  have ck : (Int32.ofNat k).toNatClampNeg = k := c_of (by omega)
  -- the class writes
  have cls : M12 = wr (wr (wr (wr (wr M9 (5 + 5) k (Int32.ofNat (2 * b + s))) (5 + 6) k r8) (5 + 7) k r2) 5 14 (Int32.ofNat k + 1)) 5 13 (Int32.ofNat (m ||| 2 ^ b)) := by
    unfold mX1_addStep at p7
    rw [d14] at p7
    have nk : ¬ (8 : Int32) ≤ Int32.ofNat k := fun z => by
      have z := i_le.mp z
      rw [tk, show ((8 : Int32)).toInt = 8 from rfl] at z; omega
    have p7 := (chk_s (ite_f nk p7)).2
    obtain ⟨M4, w1, p7⟩ := bnd_s p7
    have d4 : rd M4 5 14 = Int32.ofNat k := by rw [w1, rd_wk (by decide)]; exact d14
    rw [d4] at p7
    have p7 := (chk_s p7).2
    obtain ⟨M5, w2, p7⟩ := bnd_s p7
    have d5 : rd M5 5 14 = Int32.ofNat k := by rw [w2, rd_wk (by decide)]; exact d4
    rw [d5] at p7
    have p7 := (chk_s p7).2
    obtain ⟨M7, w3, p7⟩ := bnd_s p7
    have d7 : rd M7 5 14 = Int32.ofNat k := by rw [w3, rd_wk (by decide)]; exact d5
    obtain ⟨M8, w4, p7⟩ := bnd_s p7
    obtain ⟨M9', w5, p7⟩ := bnd_s p7
    cases p7
    have d8 : rd M8 5 13 = Int32.ofNat m := by rw [w4, rd_wj (by decide), w3, rd_wk (by decide), w2, rd_wk (by decide), w1, rd_wk (by decide)]; exact m9
    rw [w5, d8, f_shr1 (2 * b + s) (by omega), show (2 * b + s) / 2 = b by omega, f_or m m256 b (by omega), w4, d7, w3, w2, w1, ck]
  -- the reference writes
  have n54 : ((54 : Int32)).toInt = 54 := rfl
  have i54 : ((54 : Int32) + (4 : Int32) * Int32.ofNat k).toInt = 54 + 4 * (k : Int) := by
    rw [i_add, i_mulc (a := (4 : Int32)) (c := 4) rfl (by omega) (by omega), tk]
    · rfl
    · rw [i_mulc (a := (4 : Int32)) (c := 4) rfl (by omega) (by omega)]; omega
    · rw [i_mulc (a := (4 : Int32)) (c := 4) rfl (by omega) (by omega)]; omega
  have u6 := (chk_s u6).2
  have e53x : rd N10 (135 + 1) ((53 : Int32)).toNatClampNeg = Int32.ofNat k := f53
  rw [e53x] at u6
  obtain ⟨x5, v0, u6⟩ := bnd_s u6
  have t5 : x5.toInt = 54 + 4 * (k : Int) := by rw [v0]; exact i54
  have cx : ∀ d : Int32, 0 ≤ d.toInt → d.toInt ≤ 3 → (x5 + d).toNatClampNeg = 54 + 4 * k + d.toInt.toNat := fun d h1 h2 => by
    rw [i_clamp, i_add (by omega) (by omega), t5]; omega
  have cx0 : x5.toNatClampNeg = 54 + 4 * k := by rw [i_clamp, t5]; omega
  have cx1 : (x5 + (1 : Int32)).toNatClampNeg = 55 + 4 * k := by rw [cx 1 (by decide) (by decide)]; rw [n11]; omega
  have cx2 : (x5 + (2 : Int32)).toNatClampNeg = 56 + 4 * k := by rw [cx 2 (by decide) (by decide), show ((2 : Int32)).toInt = 2 from rfl]; omega
  have cx3 : (x5 + (3 : Int32)).toNatClampNeg = 57 + 4 * k := by rw [cx 3 (by decide) (by decide), show ((3 : Int32)).toInt = 3 from rfl]; omega
  have u6 := (chk_s u6).2
  obtain ⟨N15, v1, u6⟩ := bnd_s u6
  have u6 := (chk_s u6).2
  obtain ⟨N18, v2, u6⟩ := bnd_s u6
  have u6 := (chk_s u6).2
  obtain ⟨N21, v3, u6⟩ := bnd_s u6
  have u6 := (chk_s u6).2
  obtain ⟨N24, v4, u6⟩ := bnd_s u6
  have u6 := (chk_s (chk_s u6).2).2
  obtain ⟨N28, v5, u6⟩ := bnd_s u6
  have u6 := (chk_s (chk_s u6).2).2
  obtain ⟨N32, v6, u6⟩ := bnd_s u6
  cases u6
  rw [cx0] at v1
  rw [cx1] at v2
  rw [cx2] at v3
  rw [cx3] at v4
  have ref : N32 = wr (wr (wr (wr (wr (wr N10 136 (54 + 4 * k) (Int32.ofNat b)) 136 (55 + 4 * k) (Int32.ofNat s)) 136 (56 + 4 * k) q6) 136 (57 + 4 * k) q2) 136 53 (Int32.ofNat k + 1)) 136 52 (Int32.ofNat (m ||| 2 ^ b)) := by
    have y1 : rd N24 (135 + 1) ((53 : Int32)).toNatClampNeg = Int32.ofNat k := by
      show rd N24 136 53 = _
      rw [v4, rd_wj (by omega), v3, rd_wj (by omega), v2, rd_wj (by omega), v1, rd_wj (by omega)]; exact f53
    rw [y1] at v5
    have y2 : rd N28 (135 + 1) ((52 : Int32)).toNatClampNeg = Int32.ofNat m := by
      show rd N28 136 52 = _
      rw [v5]
      show rd (wr N24 136 53 _) 136 52 = _
      rw [rd_wj (by omega), v4, rd_wj (by omega), v3, rd_wj (by omega), v2, rd_wj (by omega), v1, rd_wj (by omega)]; exact f52
    rw [y2, f_or m m256 b (by omega)] at v6
    rw [v6, v5, v4, v3, v2, v1]
    rfl
  have nx : ∀ (c j : Nat), c ≠ 136 → rd N32 c j = rd N10 c j := fun c j hc => by
    rw [ref, rd_wk hc, rd_wk hc, rd_wk hc, rd_wk hc, rd_wk hc, rd_wk hc]
  have ny : ∀ j, j ≠ 52 → j ≠ 53 → ¬ (54 + 4 * k ≤ j ∧ j < 58 + 4 * k) → rd N32 136 j = rd N10 136 j := fun j h1 h2 h3 => by
    rw [ref, rd_wj h1, rd_wj h2, rd_wj (by omega), rd_wj (by omega), rd_wj (by omega), rd_wj (by omega)]
  have z52 : rd N32 136 52 = Int32.ofNat (m ||| 2 ^ b) := by rw [ref, rd_we]
  have z53 : rd N32 136 53 = Int32.ofNat k + 1 := by rw [ref, rd_wj (by omega), rd_we]
  have z54 : rd N32 136 (54 + 4 * k) = Int32.ofNat b := by
    rw [ref, rd_wj (by omega), rd_wj (by omega), rd_wj (by omega), rd_wj (by omega), rd_wj (by omega), rd_we]
  have z55 : rd N32 136 (55 + 4 * k) = Int32.ofNat s := by
    rw [ref, rd_wj (by omega), rd_wj (by omega), rd_wj (by omega), rd_wj (by omega), rd_we]
  have z56 : rd N32 136 (56 + 4 * k) = q6 := by
    rw [ref, rd_wj (by omega), rd_wj (by omega), rd_wj (by omega), rd_we]
  have z57 : rd N32 136 (57 + 4 * k) = q2 := by
    rw [ref, rd_wj (by omega), rd_wj (by omega), rd_we]
  have tb' : (Int32.ofNat b).toInt = (b : Int) := t_of (by omega)
  have ts' : (Int32.ofNat s).toInt = (s : Int) := t_of (by omega)
  have ek1 : Int32.ofNat k + 1 = Int32.ofNat (k + 1) := (Int32.ofNat_add k 1).symm
  have tk1 : (Int32.ofNat (k + 1)).toInt = ((k + 1 : Nat) : Int) := t_of (by omega)
  refine ⟨c1, S9.row (f := row 136 N32) ?_ rfl ?_ ?_ (fun c j hc => nx c j (by omega)) ?_, ?_⟩
  · show PR 5 M12 _
    rw [cls]
    refine PR.step (n := k) (c := Int32.ofNat (2 * b + s)) (ga := r8) (co := r2) (f := row 136 N10) S9.1 (by show (rd N10 136 53).toInt = _; rw [f53]; exact tk) k8 (fun i hi => ny i (by omega) (by omega) (by omega)) (fun i h1 h2 => ny i (by omega) (by omega) h2) (by rw [ek1, tk1]; omega) z53 z52 ?_ ?_ ?_
    · show _ = 2 * (rd N32 136 (54 + 4 * k)).toInt + (rd N32 136 (55 + 4 * k)).toInt
      rw [z54, z55, tb', ts', t_of (by omega)]; omega
    · show rd N32 136 (56 + 4 * k) = r8
      rw [z56, g1]
    · show rd N32 136 (57 + 4 * k) = r2
      rw [z57, c1]
  · -- the row's own
    refine ⟨?_, fun n hn' j hj => ?_, fun j m' h53 hj8 h52 hm' => ?_⟩
    · show (rd N32 136 53).toInt ≤ 8
      rw [z53, ek1, tk1]; omega
    · have hn10 : (rd N10 136 0).toInt = (n : Int) := by rw [← ny 0 (by omega) (by omega) (by omega)]; exact hn'
      have en : n = nb 5 M := by
        have a := S9.1.pb.bn
        have a : (rd N10 136 0).toInt = (nb 5 M9 : Int) := a
        have : nb 5 M9 = nb 5 M := b9.bn.trans en6
        omega
      have hj : (j : Int) < (rd N32 136 53).toInt := hj
      rw [z53, ek1, tk1] at hj
      show (0 ≤ (rd N32 136 (54 + 4 * j)).toInt ∧ (rd N32 136 (54 + 4 * j)).toInt < _) ∧ 0 ≤ (rd N32 136 (55 + 4 * j)).toInt ∧ (rd N32 136 (55 + 4 * j)).toInt ≤ 1
      by_cases e : j = k
      · subst e
        rw [z54, z55, tb', ts']; omega
      · rw [ny _ (by omega) (by omega) (by omega), ny _ (by omega) (by omega) (by omega)]
        have a := S9.2.2.1.2.1 n hn10 j (by show (j : Int) < (rd N10 136 53).toInt; rw [f53, tk]; omega)
        exact a
    · have h53 : rd N32 136 53 = Int32.ofNat (j + 1) := h53
      rw [z53, ek1] at h53
      have ej : j = k := by have := o_inj (by omega) (by omega) h53; omega
      subst ej
      have h52 : rd N32 136 52 = Int32.ofNat m' := h52
      rw [z52] at h52
      have h256 := n_256 n8 hz.2.2.1
      have em : m ||| 2 ^ b = m' := o_inj (by omega) (by omega) h52
      have no := n_off2 m m256 b (by omega) tb
      refine ⟨2 * b + s, by omega, ?_, ?_, ?_, ?_⟩
      · show (rd N32 136 (54 + 4 * j)).toInt = _
        rw [z54, tb']; omega
      · show (rd N32 136 (55 + 4 * j)).toInt = _
        rw [z55, ts']; omega
      · rw [← em, show (2 * b + s) / 2 = b by omega]; exact no.2
      · show GVr (row 136 N32) _ _ (rd N32 136 (56 + 4 * j))
        rw [z56, ← g1, ← em, show (2 * b + s) / 2 = b by omega, no.1]
        intro N' hN'
        exact hGV N' (fun i hi => (hN' i hi).trans (ny i (by omega) (by omega) (by omega)))
  · intro c j hc
    show rd M12 c j = rd M9 c j
    rw [cls, rd_wk (by omega), rd_wk (by omega), rd_wk (by omega), rd_wk (by omega), rd_wk (by omega)]
  · have kx : KS (fun c _ => 5 ≤ c ∧ c < 13) M9 M12 := by
      rw [cls]
      exact ((((KS.rf.wr (by omega)).wr (by omega)).wr (by omega)).wr (by omega)).wr (by omega)
    have lx : KL M9 M12 := lX1_addStep (k0 := 5) (KL.rf : KL M9 M9) _ p7
    exact S9.2.2.2.2.ks kx (fun c j _ _ _ z => by omega) (fun j => lx.rl j)
  · show rd N32 135 5 = rd N 135 5
    rw [nx 135 5 (by decide), k10 135 5 (by unfold SHi; omega), k7 135 5 (by unfold SLy; omega), c3 135 5 (by unfold SRl; omega)]
end FO
end
/-! part 60zzv.steps -/
section
/-! what asks for a step: alike -/
def nmb2 (e : Nat) : Int32 := if e = 1 then 1 else 2
def nmb3 (e : Nat) : Int32 := if e = 1 then 1 else if e = 0 then 2 else 3
section SQS
variable {g : Gm} {n m a b s c l e : Nat} {M M' N N' N0 : Mem} {lc lg r x x1 x2 : Int32} {α β γ : Type}
theorem calx_cal {ρ σ τ : Type} {x : Option (Mem × (ρ ⊕ Nat))} {k : Mem → ρ → Option (Mem × (σ ⊕ Nat))} {P : Mem × (σ ⊕ Nat) → Prop} (h : Pc x (fun q => (∃ v, q.2 = Sum.inl v ∧ Pc (k q.1 v) P) ∨ ∃ w, q.2 = Sum.inr w ∧ P (q.1, Sum.inr w))) : Pc (calx x k) P := by
  intro a e
  cases x with
  | none => cases e
  | some y =>
    obtain ⟨M1, r⟩ := y
    rcases h _ rfl with ⟨v, e1, h1⟩ | ⟨w, e1, h1⟩
    · have e1 : r = Sum.inl v := e1
      subst e1
      exact h1 a e
    · have e1 : r = Sum.inr w := e1
      subst e1
      cases e; exact h1
theorem R2.xl {ρ σ : Type} {x : Option (Mem × (ρ ⊕ Nat))} {k : Mem → ρ → Option (Mem × (σ ⊕ Nat))} {y : Option β} {R : Mem × (σ ⊕ Nat) → β → Prop} {Q : Mem × (ρ ⊕ Nat) → Prop} (h : Pc x Q) (h1 : ∀ M1 v, Q (M1, Sum.inl v) → R2 (k M1 v) y R) (h2 : ∀ M1 w, Q (M1, Sum.inr w) → R2 (some (M1, Sum.inr w)) y R) : R2 (calx x k) y R := by
  intro a b e1 e2
  cases x with
  | none => cases e1
  | some z =>
    obtain ⟨M1, r⟩ := z
    cases r with
    | inl v => exact h1 M1 v (h _ rfl) a b e1 e2
    | inr w => exact h2 M1 w (h _ rfl) a b e1 e2
/-- the class asks for a step -/
theorem pc_reqStep {f : Nat → Int32} (hP : PR 5 M f) (hn : (f 0).toInt = (n : Int)) : Pc (mX6_requireStep 0 x1 x2 M) (fun q => (q = (M, Sum.inl ()) ∧ (0 ≤ x1.toInt ∧ x1.toInt < (n : Int)) ∧ (0 ≤ x2.toInt ∧ x2.toInt ≤ 1)) ∨ (q = (M, Sum.inr 1) ∧ ¬ (0 ≤ x1.toInt ∧ x1.toInt < (n : Int))) ∨ (q = (M, Sum.inr 0) ∧ (0 ≤ x1.toInt ∧ x1.toInt < (n : Int)) ∧ ¬ (0 ≤ x2.toInt ∧ x2.toInt ≤ 1))) := by
  unfold mX6_requireStep
  refine calx_cal (τ := Unit) ((pc_reqBend hP hn).mono (fun q hq => ?_))
  rcases hq with ⟨e, h1⟩ | ⟨e, h1⟩
  · refine Or.inl ⟨(), by rw [e], ?_⟩
    refine calx_cal (τ := Unit) ((pc_reqChoice (n := 1) rfl).mono (fun q2 hq2 => ?_))
    have e1 : q.1 = M := by rw [e]
    rcases hq2 with ⟨e2, h2⟩ | ⟨e2, h2⟩
    · refine Or.inl ⟨(), by rw [e2], Pc.ok (Or.inl ⟨?_, h1, h2⟩)⟩
      rw [e2, e1]
    · refine Or.inr ⟨0, by rw [e2], Or.inr (Or.inr ⟨?_, h1, h2⟩)⟩
      rw [e2, e1]
  · exact Or.inr ⟨1, by rw [e], Or.inr (Or.inl ⟨by rw [e], h1⟩)⟩
/-- a step asked for, by both -/
theorem R2.step {σ τ : Type} {R : Mem × (σ ⊕ Nat) → Mem × τ → Prop} {K : Mem → Option (Mem × (σ ⊕ Nat))} {K' : Mem → Option (Mem × τ)} {z : τ} (h : SS M N) (h1 : ∀ b s, b < nb 5 M → s < 2 → x1 = Int32.ofNat b → x2 = Int32.ofNat s → R2 (K M) (K' (wr N 135 5 0)) R) (h2 : R (M, Sum.inr 1) (wr N 135 5 1, z)) (h3 : R (M, Sum.inr 0) (wr N 135 5 2, z)) :
    R2 (calx (mX6_requireStep 0 x1 x2 M) (fun M3 _ => K M3)) (cap (mX7_isBend 135 x1 N) (fun r2 => cap (mX7_isSide x2 N) (fun r5 => cal (mX7_good_ 135 r2 r5 N) (fun M9 r8 => ite2 (r8 = 0) (some (M9, z)) (K' M9))))) R := by
  have n8 := nb8 (pr_9 h.1)
  have hn : (rd N 136 0).toInt = (nb 5 M : Int) := h.1.pb.bn
  refine R2.cr (pc_isBend hn n8) (fun r2 p2 => R2.cr pc_isSide (fun r5 p5 => R2.mr pc_good2 (fun N9 r8 p8 => ?_)))
  refine R2.xl (pc_reqStep h.1 hn) (fun M1 v q => ?_) (fun M1 w q => ?_)
  · rcases q with ⟨e, q1, q2⟩ | ⟨e, _⟩ | ⟨e, _⟩
    · have eM : M1 = M := congrArg Prod.fst e
      rw [eM]
      have e2 : r2 = 1 := by
        rcases p2 with ⟨z, _⟩ | ⟨_, z⟩
        · exact z
        · exact absurd q1 z
      have e5 : r5 = 1 := by
        rcases p5 with ⟨z, _⟩ | ⟨_, z⟩
        · exact z
        · exact absurd q2 z
      rcases p8 with ⟨z, _⟩ | ⟨_, z, _⟩ | ⟨_, _, e8⟩
      · rw [e2] at z; exact absurd z (by decide)
      · rw [e5] at z; exact absurd z (by decide)
      · have eN : N9 = wr N 135 5 0 := congrArg Prod.fst e8
        have er : r8 = 1 := congrArg Prod.snd e8
        rw [er, eN]
        refine R2.ir (fun z => absurd z (by decide)) (fun _ => ?_)
        refine h1 x1.toInt.toNat x2.toInt.toNat (by omega) (by omega) (o_of q1.1) (o_of q2.1)
    · exact absurd (congrArg Prod.snd e) (by intro z; cases z)
    · exact absurd (congrArg Prod.snd e) (by intro z; cases z)
  · rcases q with ⟨e, _, _⟩ | ⟨e, q1⟩ | ⟨e, q1, q2⟩
    · exact absurd (congrArg Prod.snd e) (by intro z; cases z)
    · cases e
      have e2 : r2 = 0 := by
        rcases p2 with ⟨_, z⟩ | ⟨z, _⟩
        · exact absurd z q1
        · exact z
      rcases p8 with ⟨_, e8⟩ | ⟨z, _, _⟩ | ⟨z, _, _⟩
      · have eN : N9 = wr N 135 5 1 := congrArg Prod.fst e8
        have er : r8 = 0 := congrArg Prod.snd e8
        rw [er, eN]
        exact R2.ir (fun _ => R2.ok h2) (fun z => absurd rfl z)
      · exact absurd e2 z
      · exact absurd e2 z
    · cases e
      have e2 : r2 = 1 := by
        rcases p2 with ⟨z, _⟩ | ⟨_, z⟩
        · exact z
        · exact absurd q1 z
      have e5 : r5 = 0 := by
        rcases p5 with ⟨_, z⟩ | ⟨z, _⟩
        · exact absurd z q2
        · exact z
      rcases p8 with ⟨z, _⟩ | ⟨_, _, e8⟩ | ⟨_, z, _⟩
      · rw [e2] at z; exact absurd z (by decide)
      · have eN : N9 = wr N 135 5 2 := congrArg Prod.fst e8
        have er : r8 = 0 := congrArg Prod.snd e8
        rw [er, eN]
        exact R2.ir (fun _ => R2.ok h3) (fun z => absurd rfl z)
      · exact absurd e5 z
theorem reason_1 {k k1 : Nat} (ha : a < 256) (hc : c < 16) : Pc (mX2_reasonFor k k1 (Int32.ofNat a) (Int32.ofNat c) M) (fun q => q.2 = 0 → a.testBit (c / 2) = false) := by
  have hf0 := f_has0 a ha (c / 2) (by omega)
  have go : ∀ y : Int32, Pc (mX2_reasonFor_b20 k k1 (Int32.ofNat a) (Int32.ofNat c) (Int32.ofNat (c / 2)) y M) (fun q => q.2 = 0 → a.testBit (c / 2) = false) := by
    intro y
    unfold mX2_reasonFor_b20
    refine Pc.i (fun c0 => fun q _ _ => hf0.mp c0) (fun _ => Pc.ok (fun z => absurd (show (1 : Int32) = 0 from z) (by decide)))
  unfold mX2_reasonFor
  rw [f_shr1c c hc]
  exact Pc.b (fun x e => by subst e; exact Pc.i (fun _ => go _) (fun _ => go _))
theorem f_code : ∀ b, b < 8 → ∀ s, s < 2 → (2 : Int32) * Int32.ofNat b + Int32.ofNat s = Int32.ofNat (2 * b + s) := by decide
/-- the class's reason, the reference's, in a state -/
theorem SS.reason (h : SS M N) (hm : rd M 5 13 = Int32.ofNat m) (m2 : m < 2 ^ nb 5 M) (hb : b < nb 5 M) (hs : s < 2) : R2 (mX6_reasonNow 0 (Int32.ofNat (2 * b + s)) M) (mX7_reasonOf 135 (Int32.ofNat b) (Int32.ofNat s) (rd N (135 + 1) ((52 : Int32)).toNatClampNeg) N) (fun p q => p.2 = q.2 ∧ SS p.1 q.1 ∧ KS (SPs 103) M p.1 ∧ KS SLy N q.1) := by
  have hn : (rd N 136 0).toInt = (nb 5 M : Int) := h.1.pb.bn
  have e52 : rd N (135 + 1) ((52 : Int32)).toNatClampNeg = Int32.ofNat m := h.1.ma.symm.trans hm
  unfold mX6_reasonNow
  rw [hm, e52]
  intro p q hp hq
  obtain ⟨M3, r2, p1, p2⟩ := cal_s hp
  cases p2
  obtain ⟨w1, w2, w3, _⟩ := reason_R (k := 103) (by omega) h.1 hn hb hs m2 _ _ p1 hq
  have w2 : KS (SPs 103) M M3 := w2
  have kq : KS SLy N q.1 := vX7_reasonOf (KS.rf : KS SLy N N) q hq
  have l3 : KL M M3 := lX2_reasonFor (k0 := 103) (k1 := 5) (KL.rf : KL M M) _ p1
  exact ⟨w1, (h.pl w2 l3 (fun c j z => by unfold SPs at z; omega)).sly kq, w2, kq⟩
theorem reason_RR (h : SS M N) (hI : MI N) : R2 (mX6_reason 0 x1 x2 M) (mX7_reason 135 x1 x2 N) (fun p q => XR nmb2 p q ∧ SS p.1 q.1) := by
  obtain ⟨m, m2, em, hR⟩ := row_at hI h.1
  have n8 := nb8 (pr_9 h.1)
  unfold mX6_reason mX7_reason
  refine R2.step h (fun b s hb hs e1 e2 => ?_) ⟨XR.inr rd_we, h.th⟩ ⟨XR.inr rd_we, h.th⟩
  subst e1
  subst e2
  rw [f_code b (by omega) s hs]
  refine R2.kr (fun _ => R2.mm (h.th.reason em m2 hb hs) (fun M3 r N3 q p => ?_))
  obtain ⟨p1, p2, _, p4⟩ := p
  exact R2.ok ⟨XR.inl ((p4 135 5 (by unfold SLy; omega)).trans rd_we) p1, p2⟩
theorem SS.gauge (h : SS M N) (hm : rd M 5 13 = Int32.ofNat m) (m2 : m < 2 ^ nb 5 M) (hb : b < nb 5 M) (hs : s < 2) : R2 (mX6_gaugeNow 0 (Int32.ofNat (2 * b + s)) M) (mX7_gaugeOf 135 (Int32.ofNat b) (Int32.ofNat s) (rd N (135 + 1) ((52 : Int32)).toNatClampNeg) N) (fun p q => p.2 = q.2 ∧ SS p.1 q.1 ∧ KS SLy N q.1) := by
  have hn : (rd N 136 0).toInt = (nb 5 M : Int) := h.1.pb.bn
  have e52 : rd N (135 + 1) ((52 : Int32)).toNatClampNeg = Int32.ofNat m := h.1.ma.symm.trans hm
  intro p q hp hq
  have l3 : KL M p.1 := lX6_gaugeNow (k0 := 0) (KL.rf : KL M M) _ hp
  unfold mX6_gaugeNow at hp
  rw [hm] at hp
  rw [e52] at hq
  obtain ⟨w1, w2, _⟩ := gaugeOf_R (k := 103) (by omega) h.1 hn hb hs m2 _ _ hp hq
  have kq : KS SLy N q.1 := vX7_gaugeOf (KS.rf : KS SLy N N) q hq
  exact ⟨w1, (h.pl w2 l3 (fun c j z => by unfold SPs at z; omega)).sly kq, kq⟩
theorem gauge_RR (h : SS M N) (hI : MI N) : R2 (mX6_gauge 0 x1 x2 M) (mX7_gauge 135 x1 x2 N) (fun p q => XR nmb2 p q ∧ SS p.1 q.1) := by
  obtain ⟨m, m2, em, hR⟩ := row_at hI h.1
  have n8 := nb8 (pr_9 h.1)
  unfold mX6_gauge mX7_gauge
  refine R2.step h (fun b s hb hs e1 e2 => ?_) ⟨XR.inr rd_we, h.th⟩ ⟨XR.inr rd_we, h.th⟩
  subst e1
  subst e2
  rw [f_code b (by omega) s hs]
  refine R2.kr (fun _ => R2.mm (h.th.gauge em m2 hb hs) (fun M3 r N3 q p => ?_))
  obtain ⟨p1, p2, p4⟩ := p
  exact R2.ok ⟨XR.inl ((p4 135 5 (by unfold SLy; omega)).trans rd_we) p1, p2⟩
theorem costOf_RR (h : SS M N) (hI : MI N) : R2 (mX6_costOf 0 x1 x2 M) (mX7_costOf 135 x1 x2 N) (fun p q => XR nmb2 p q ∧ SS p.1 q.1) := by
  obtain ⟨m, m2, em, hR⟩ := row_at hI h.1
  have n8 := nb8 (pr_9 h.1)
  unfold mX6_costOf mX7_costOf
  refine R2.step h (fun b s hb hs e1 e2 => ?_) ⟨XR.inr rd_we, h.th⟩ ⟨XR.inr rd_we, h.th⟩
  subst e1
  subst e2
  rw [f_code b (by omega) s hs]
  have hT := h.th (v := 0)
  have hn : (rd (wr N 135 5 0) 136 0).toInt = (nb 5 M : Int) := hT.1.pb.bn
  intro p q hp hq
  obtain ⟨M7, r6, p1, p2⟩ := cal_s hp
  cases p2
  obtain ⟨N7, q6, u1, u2⟩ := cal_s hq
  cases u2
  obtain ⟨w1, w2, w3⟩ := costNow_R hT.1 hn (hT.2.2.1.2.1 _ hn) hb hs em m2 _ _ p1 u1
  have l3 : KL M M7 := lX6_costNow (k0 := 0) (KL.rf : KL M M) _ p1
  have w3 : KS SRl (wr N 135 5 0) N7 := w3
  exact ⟨XR.inl ((w3 135 5 (by unfold SRl; omega)).trans rd_we) w1, (hT.pl w2 l3 (fun c j z => by unfold SPs at z; omega)).ks w3 (fun c j hc z => by unfold SRl at z; omega)⟩
/-- a step folded -/
theorem fold_RR (h : SS M N) (hI : MI N) : R2 (mX6_fold 0 x1 x2 M) (mX7_fold 135 x1 x2 N) (fun p q => XR nmb3 p q ∧ SS p.1 q.1) := by
  obtain ⟨m, m2, em, hR⟩ := row_at hI h.1
  have n8 := nb8 (pr_9 h.1)
  have m256 := n_256 n8 m2
  have hn : (rd N 136 0).toInt = (nb 5 M : Int) := h.1.pb.bn
  unfold mX6_fold mX7_fold
  refine R2.cr (pc_isBend hn n8) (fun r2 p2 => R2.cr pc_isSide (fun r5 p5 => ?_))
  have bad : ∀ {y1 y2 y3 : Int32} {w : Nat}, (y1 = 0 ∧ w = 1 ∨ ¬ y1 = 0 ∧ y2 = 0 ∧ w = 0 ∨ ¬ y1 = 0 ∧ ¬ y2 = 0 ∧ y3 = 0 ∧ w = 2) → ∀ {M1 N1 : Mem}, SS M1 N1 → R2 (some (M1, (Sum.inr w : Int32 ⊕ Nat))) (mX7_fold_b46 135 x1 x2 y1 y2 y3 N1) (fun p q => XR nmb3 p q ∧ SS p.1 q.1) := by
    intro y1 y2 y3 w hy M1 N1 hS
    unfold mX7_fold_b46
    refine R2.mr pc_good3 (fun N9 r8 p8 => ?_)
    rcases p8 with ⟨z, e8⟩ | ⟨z, z2, e8⟩ | ⟨z, z2, z3, e8⟩ | ⟨z, z2, z3, e8⟩
    · cases e8
      refine R2.ir (fun _ => R2.ok ⟨XR.inr ?_, hS.th⟩) (fun z => absurd rfl z)
      rcases hy with ⟨_, e⟩ | ⟨q, _⟩ | ⟨q, _⟩
      · rw [e]; exact rd_we
      · exact absurd z q
      · exact absurd z q
    · cases e8
      refine R2.ir (fun _ => R2.ok ⟨XR.inr ?_, hS.th⟩) (fun z => absurd rfl z)
      rcases hy with ⟨q, e⟩ | ⟨_, _, e⟩ | ⟨_, q, _⟩
      · exact absurd q z
      · rw [e]; exact rd_we
      · exact absurd z2 q
    · cases e8
      refine R2.ir (fun _ => R2.ok ⟨XR.inr ?_, hS.th⟩) (fun z => absurd rfl z)
      rcases hy with ⟨q, e⟩ | ⟨_, q, e⟩ | ⟨_, _, _, e⟩
      · exact absurd q z
      · exact absurd q z2
      · rw [e]; exact rd_we
    · rcases hy with ⟨q, e⟩ | ⟨_, q, e⟩ | ⟨_, _, q, e⟩
      · exact absurd q z
      · exact absurd q z2
      · exact absurd q z3
  unfold mX7_fold_b45
  refine R2.xl (pc_reqStep h.1 hn) (fun M1 v q => ?_) (fun M1 w q => ?_)
  · rcases q with ⟨e, q1, q2⟩ | ⟨e, _⟩ | ⟨e, _⟩
    · have eM : M1 = M := congrArg Prod.fst e
      rw [eM]
      have e2 : r2 = 1 := by
        rcases p2 with ⟨z, _⟩ | ⟨_, z⟩
        · exact z
        · exact absurd q1 z
      have e5 : r5 = 1 := by
        rcases p5 with ⟨z, _⟩ | ⟨_, z⟩
        · exact z
        · exact absurd q2 z
      subst e2
      subst e5
      obtain ⟨b, hb, e1⟩ : ∃ b : Nat, b < nb 5 M ∧ x1 = Int32.ofNat b := ⟨x1.toInt.toNat, by omega, o_of q1.1⟩
      obtain ⟨s, hs, e2⟩ : ∃ s : Nat, s < 2 ∧ x2 = Int32.ofNat s := ⟨x2.toInt.toNat, by omega, o_of q2.1⟩
      subst e1
      subst e2
      rw [f_code b (by omega) s hs]
      refine R2.ir (fun z => absurd z (by decide)) (fun _ => R2.ir (fun z => absurd z (by decide)) (fun _ => R2.kr (fun _ => ?_)))
      intro p q hp hq
      obtain ⟨M7, r6, p1, p2⟩ := cal_s hp
      obtain ⟨N7, q6, u1, u2⟩ := cal_s hq
      obtain ⟨w1, w2, w3, w4⟩ := h.reason em m2 hb hs _ _ p1 u1
      have w1 : r6 = q6 := w1
      have w2 : SS M7 N7 := w2
      have w3 : KS (SPs 103) M M7 := w3
      have w4 : KS SLy N N7 := w4
      have b7 : BL 5 M 5 M7 := BL.ks w3 (fun c j h1 h2 z => by unfold SPs at z; omega)
      subst w1
      by_cases z : r6 = 0
      · have hp2 := ite_t z p2
        have hu2 := ite_t z u2
        -- the step isn't made yet
        have tb : m.testBit b = false := by
          have p1' := p1
          unfold mX6_reasonNow at p1'
          rw [em] at p1'
          obtain ⟨M8, r8, v1, v2⟩ := cal_s p1'
          cases v2
          have hh := reason_1 (k := 103) (k1 := 5) (c := 2 * b + s) m256 (by omega) _ v1 z
          rw [show (2 * b + s) / 2 = b by omega] at hh
          exact hh
        unfold mX7_fold_b46 at hu2
        obtain ⟨N9, r9, s1, s2⟩ := cal_s hu2
        rcases pc_good3 _ s1 with ⟨q, _⟩ | ⟨_, q, _⟩ | ⟨_, _, q, _⟩ | ⟨_, _, _, e8⟩
        · exact absurd q (by decide)
        · exact absurd q (by decide)
        · exact absurd q (by decide)
        · have eN : N9 = wr N7 135 5 0 := congrArg Prod.fst e8
          have er : r9 = 1 := congrArg Prod.snd e8
          subst eN
          have s2 := ite_f (by rw [er]; decide) s2
          obtain ⟨M11, r10, t1, t2⟩ := cal_s hp2
          cases t2
          obtain ⟨N11, q10, t3, t4⟩ := cal_s s2
          cases t4
          have hS9 : SS M7 (wr N7 135 5 0) := w2.th
          have hR7 : Row (nb 5 M7) m (rd (wr N7 135 5 0) 136) := by
            rw [b7.bn]
            exact hR.of (fun j => (rd_wk (by decide)).trans (w4 136 j (by unfold SLy; omega)))
          obtain ⟨f1, f2, f3⟩ := makeStep_R hS9 hR7 ((w3 5 13 (by unfold SPs; omega)).trans em) (by rw [b7.bn]; exact hb) hs tb _ _ t1 t3
          exact ⟨XR.inl (f3.trans rd_we) f1, f2⟩
      · have hp2 := ite_f z p2
        have hu2 := ite_f z u2
        cases hp2
        exact bad (Or.inr (Or.inr ⟨by decide, by decide, rfl, rfl⟩)) w2 _ q rfl hu2
    · exact absurd (congrArg Prod.snd e) (by intro z; cases z)
    · exact absurd (congrArg Prod.snd e) (by intro z; cases z)
  · rcases q with ⟨e, _, _⟩ | ⟨e, q1⟩ | ⟨e, q1, q2⟩
    · exact absurd (congrArg Prod.snd e) (by intro z; cases z)
    · cases e
      have e2 : r2 = 0 := by
        rcases p2 with ⟨_, z⟩ | ⟨z, _⟩
        · exact absurd z q1
        · exact z
      exact R2.ir (fun _ => bad (Or.inl ⟨e2, rfl⟩) h) (fun z => absurd e2 z)
    · cases e
      have e2 : r2 = 1 := by
        rcases p2 with ⟨z, _⟩ | ⟨_, z⟩
        · exact z
        · exact absurd q1 z
      have e5 : r5 = 0 := by
        rcases p5 with ⟨_, z⟩ | ⟨z, _⟩
        · exact absurd z q2
        · exact z
      have e2n : ¬ r2 = 0 := by rw [e2]; decide
      exact R2.ir (fun z => absurd z e2n) (fun _ => R2.ir (fun _ => bad (Or.inr (Or.inl ⟨e2n, e5, rfl⟩)) h) (fun z => absurd e5 z))
end SQS
end
/-! part 60zzw.next -/
section
/-! foldNext, ordersWith: alike -/
section NX
variable {g : Gm} {n m a b s c l e : Nat} {M M' N N' N0 : Mem} {lc lg r x x1 x2 v : Int32}
theorem CTX.th (hX : CTX g 5 m M N0 N) (hS : SS M N) : CTX g 5 m M N0 (wr N 135 5 v) := by
  obtain ⟨t1, t2, t3, t4, t5, t6, t7, t8, t9⟩ := hX
  have n8 := nb8 t2
  have e : ∀ k j, k ≠ 135 → rd (wr N 135 5 v) k j = rd N k j := fun k j hk => rd_wk hk
  refine ⟨t1, t2, hS.th.1, th_put t4, t5.of (fun _ _ _ _ => e _ _ (by decide)) (fun _ _ => rfl), fun a c ha hc => by rw [e _ _ (by decide)]; exact t6 a c ha hc, fun b hb h1 h2 l hl => ?_, t8, th_row.trans t9⟩
  exact (t7 b hb h1 h2 l hl).of (by omega) h1 (t5 b hb h1 h2) (fun j => e _ _ (by decide)) (fun j => e _ _ (by decide)) (fun j => e _ _ (by decide)) (fun b c _ _ => ⟨e _ _ (by decide), e _ _ (by decide)⟩) ⟨e _ _ (by decide), e _ _ (by decide)⟩
theorem ald_th (hA : Ald n m N 0) (hAl : Al n m N 0) (hn : n < 9) : Ald n m (wr N 135 5 v) 0 := by
  intro b h1 h2 h3 l hv
  exact (hA b h1 h2 h3 l hv).of (hAl b h1 h2 h3) h2 hn (fun j => rd_wk (by decide)) (fun _ => rfl) (cst_same (fun j => rd_wk (by decide)) (fun j => rd_wk (by decide))) (fun b' c' _ _ => rd_wk (by decide))
theorem nm_th (hN : NM n m N) : NM n m (wr N 135 5 v) := ⟨(rd_wk (by decide)).trans hN.1, hN.2.1, (rd_wk (by decide)).trans hN.2.2.1, hN.2.2.2⟩
theorem foldNext_RR (h : SS M N) (hI : MI N) : R2 (mX6_foldNext 0 M) (mX7_foldNext 135 N) (fun p q => XR (fun _ => 1) p q ∧ SS p.1 q.1) := by
  unfold mX6_foldNext mX7_foldNext
  refine R2.laid h hI (fun M3 N5 m lc lg hS m2 em hK hX hN hA hAl _ elc elg hW => ?_)
  have n8 := nb8 (pr_9 hS.1)
  have m256 := n_256 n8 m2
  obtain ⟨l, hl⟩ := lst_ex hX hS.2.2.1 m2 em elc elg hW
  have hpl := hX.plan hA m2 hK elc elg hl
  have n1 : ((1 : Int32)).toInt = 1 := rfl
  have n0 : ((0 : Int32)).toInt = 0 := rfl
  have nm1 : ((-1 : Int32)).toInt = -1 := rfl
  have hz := (z_full (nb 5 M3) (by omega) m m2).1
  have none : (rd M3 110 3).toInt < 1 → R2 (ite2 ((1 : Int32) ≤ (rd M3 110 3)) (chk (okb (0 : Int32) 8) (bnd ((rd M3 (110 + 1) ((0 : Int32)).toNatClampNeg)) (fun x1_42 => cal (mX6_makeStep 0 x1_42 M3) (fun M9 r8 => some (M9, (Sum.inl x1_42 : Int32 ⊕ Nat)))))) (some (M3, Sum.inr 2))) (mX7_foldNext_b23 135 N5) (fun p q => XR (fun _ => 1) p q ∧ SS p.1 q.1) := by
    intro hx
    unfold mX7_foldNext_b23 mX7_foldNext_b24
    refine R2.il (fun z => by have z := i_le.mp z; omega) (fun _ => R2.mr (pc_good (x := 0) (N := N5)) (fun N10 r9 p => ?_))
    rcases p with ⟨_, e⟩ | ⟨z, _⟩
    · cases e
      refine R2.ir (fun _ => R2.ok ⟨XR.inr rd_we, hS.th⟩) (fun z => absurd rfl z)
    · exact absurd rfl z
  refine R2.cr (pc_isOrd hN) (fun r5 p5 => R2.ir (fun c => none ?_) (fun c => ?_))
  · have hm : ¬ 0 < mn N5 m := by
      rcases p5 with ⟨_, q⟩ | ⟨q, _⟩
      · exact q
      · rw [q] at c; exact absurd c (by decide)
    rw [hpl.1 hm, nm1]; decide
  have hm : 0 < mn N5 m := by
    rcases p5 with ⟨q, _⟩ | ⟨_, q⟩
    · exact absurd q c
    · exact q
  obtain ⟨hlen, hst⟩ := hpl.2 hm
  have tl : (rd M3 110 3).toInt = (cntz m (nb 5 M3) : Int) := by rw [hlen, t_of (by omega)]
  refine R2.cr (pc_un hX.2.2.2.1 hN) (fun r23 e23 => R2.ir (fun c2 => none ?_) (fun c2 => ?_))
  · have c2 := i_le.mp c2
    rw [e23, t_of (by omega), n0] at c2
    omega
  · have c2 := i_nle c2
    rw [e23, t_of (by omega), n0] at c2
    refine R2.il (fun _ => R2.kl (fun _ => R2.bl (fun x1 ex => ?_))) (fun z => by have z := i_nle z; omega)
    obtain ⟨c0, e0, hb0⟩ := hst 0 (by omega)
    have hb0 : bst (nb 5 M3) N5 m l c0 := hb0
    have ex : x1 = Int32.ofNat c0 := ex.trans e0
    unfold mX7_foldNext_b24
    refine R2.mr (pc_good (x := 1) (N := N5)) (fun N10 r9 p => ?_)
    rcases p with ⟨z, _⟩ | ⟨_, e⟩
    · exact absurd z (by decide)
    cases e
    refine R2.ir (fun z => absurd z (by decide)) (fun _ => R2.kr (fun _ => ?_))
    have hX10 := hX.th (v := 0) hS
    have hS10 := hS.th (v := 0)
    have hN10 := nm_th (v := 0) hN
    have hA10 := ald_th (v := 0) hA hAl (by omega)
    refine R2.cr (lst_of hX10 hS10.2.2.1 m2 em elc elg) (fun r14 p14 => ?_)
    obtain ⟨l', e14, l16, hl'⟩ := p14
    have hm10 : 0 < mn (wr N5 135 5 0) m := hm
    obtain ⟨_, hst10⟩ := (hX10.plan hA10 m2 hK elc elg hl').2 hm10
    obtain ⟨c1, e1, hb1⟩ := hst10 0 (by omega)
    have hb1 : bst (nb 5 M3) (wr N5 135 5 0) m l' c1 := hb1
    have ec : c1 = c0 := o_inj (by have := hb1.1.1; omega) (by have := hb0.1.1; omega) (e1.symm.trans e0)
    subst ec
    have e52 : rd (wr N5 135 5 0) (135 + 1) ((52 : Int32)).toNatClampNeg = Int32.ofNat m := hN10.2.2.1
    rw [e52, e14]
    have hO := hX10.2.2.2.2.1 m (by omega) m2 (Nat.and_self m)
    refine R2.cr (pc_bestR hN10 hX10.2.2.2.1 m2 l16 hO) (fun r17 p17 => ?_)
    rcases p17 with ⟨c2', e17, hb2⟩ | ⟨_, hno⟩
    · have ec := bst_u hb2 hb1
      subst ec
      have c16 := hb2.1.1
      rw [e17, f_half c2' (by omega), ← f_half c2' (by omega), f_mod c2' (by omega), f_half c2' (by omega), ex]
      have tb := (hO.1 c2' c16).2 hb2.1.2.1
      have hW10 : Row (nb 5 M3) m (rd (wr N5 135 5 0) 136) := row_th hW
      have mk := makeStep_R hS10 hW10 em (b := c2' / 2) (s := c2' % 2) (by omega) (by omega) tb
      rw [show 2 * (c2' / 2) + c2' % 2 = c2' by omega] at mk
      refine R2.mm mk (fun M9 r8 N21 r20 p => ?_)
      obtain ⟨_, p2, p3⟩ := p
      exact R2.ok ⟨XR.inl (p3.trans rd_we) rfl, p2⟩
    · exact absurd hb1.1 (hno c1)
theorem ordersWith_RR (h : SS M N) (hI : MI N) : R2 (mX6_ordersWith 0 x1 x2 M) (mX7_ordersWith 135 x1 x2 N) (fun p q => XR nmb2 p q ∧ SS p.1 q.1) := by
  obtain ⟨m, m2, em, hR⟩ := row_at hI h.1
  have n8 := nb8 (pr_9 h.1)
  have m256 := n_256 n8 m2
  have hn : (rd N 136 0).toInt = (nb 5 M : Int) := h.1.pb.bn
  unfold mX6_ordersWith mX7_ordersWith
  refine R2.step h (fun b s hb hs e1 e2 => ?_) ⟨XR.inr rd_we, h.th⟩ ⟨XR.inr rd_we, h.th⟩
  subst e1
  subst e2
  rw [f_code b (by omega) s hs]
  have hT := h.th (v := 0)
  have hIT : MI (wr N 135 5 0) := (hI.th (v := 0)).1
  have hNT : NM (nb 5 M) m (wr N 135 5 0) := (row_th hR).nm
  refine R2.mr ((pc_layOrders hIT.1 hNT).and (Fr.pc (vX7_layOrders (KS.rf : KS SLy (wr N 135 5 0) (wr N 135 5 0))))) (fun N13 _ p => ?_)
  obtain ⟨⟨_, hN13, _, hO, _⟩, hk⟩ := p
  have hk : KS SLy (wr N 135 5 0) N13 := hk
  have th0 : rd N13 135 5 = 0 := (hk 135 5 (by unfold SLy; omega)).trans rd_we
  have e52 : rd N13 (135 + 1) ((52 : Int32)).toNatClampNeg = Int32.ofNat m := hN13.2.2.1
  have tb : (Int32.ofNat b).toInt = (b : Int) := t_of (by omega)
  have ts : (Int32.ofNat s).toInt = (s : Int) := t_of (by omega)
  have tm : (Int32.ofNat m).toInt = (m : Int) := t_of (by omega)
  rw [e52]
  have ix : (((16 : Int32) * Int32.ofNat m + (2 : Int32) * Int32.ofNat b) + Int32.ofNat s).toNatClampNeg = 16 * m + (2 * b + s) := by
    have a1 := i_mulc (a := (16 : Int32)) (b := Int32.ofNat m) (c := 16) rfl (by omega) (by omega)
    have a2 := i_mulc (a := (2 : Int32)) (b := Int32.ofNat b) (c := 2) rfl (by omega) (by omega)
    have a3 := i_add (a := (16 : Int32) * Int32.ofNat m) (b := (2 : Int32) * Int32.ofNat b) (by omega) (by omega)
    rw [i_clamp, i_add (by omega) (by omega)]; omega
  rw [ix]
  refine R2.kr (fun _ => R2.kr (fun _ => ?_))
  have hOm := hO m (by omega) m2 (Nat.and_self m)
  obtain ⟨⟨N1, q1, w1, w2, w3⟩, wb⟩ := hOm.1 (2 * b + s) (by omega)
  rw [show (2 * b + s) / 2 = b by omega] at w2 wb
  rw [show (2 * b + s) % 2 = s by omega] at w2
  -- the class's reason now
  intro p q hp hq
  obtain ⟨M7, r6, p1, p2⟩ := cal_s hp
  have hS1 : SS M N1 ∨ True := Or.inr trivial
  have P1 : PR 5 M (row 136 N1) := by rw [w1]; exact hT.1
  have p1' := p1
  unfold mX6_reasonNow at p1'
  rw [em] at p1'
  obtain ⟨M8, r8, v1, v2⟩ := cal_s p1'
  cases v2
  have hn1 : (rd N1 136 0).toInt = (nb 5 M : Int) := P1.pb.bn
  obtain ⟨z1, z2, _, _⟩ := reason_R (k := 103) (by omega) P1 hn1 hb hs m2 _ _ v1 w2
  have z1 : r6 = q1.2 := z1
  have z2 : KS (SPs 103) M M7 := z2
  have l7 : KL M M7 := lX6_reasonNow (k0 := 0) (KL.rf : KL M M) _ p1
  have hS7 : SS M7 (wr N 135 5 0) := hT.pl z2 l7 (fun c j z => by unfold SPs at z; omega)
  have b7 : BL 5 M 5 M7 := BL.ks z2 (fun c j h1 h2 z => by unfold SPs at z; omega)
  by_cases z : r6 = 0
  · have ho : cnb N13 m (2 * b + s) = true := w3.mpr (by rw [← z1]; exact z)
    have p2 := ite_t z p2
    have hq := ite_f (cnb_iff.mp ho) hq
    have hq := (chk_s (chk_s hq).2).2
    have tbm := wb ho
    have hz := z_set (nb 5 M) (by omega) m m2 b hb tbm
    have h256 := n_256 n8 hz.2.2.1
    have e52' : rd N13 (135 + 1) ((52 : Int32)).toNatClampNeg = Int32.ofNat m := hN13.2.2.1
    rw [f_or m m256 b (by omega), c_of (by omega)] at hq
    cases hq
    obtain ⟨M11, _, s1, s2⟩ := cal_s p2
    obtain ⟨t1, _, m', lc, lg, m2', em', hK, _, _, _⟩ := pc_prep hS7 hIT _ s1
    have t1 : SS M11 (wr N 135 5 0) := t1
    have m2' : m' < 2 ^ nb 5 M11 := m2'
    have hK : PK 5 m' M11 := hK
    have em' : rd M11 5 13 = Int32.ofNat m' := em'
    obtain ⟨r13, s3, s4⟩ := cap_s s2
    cases s4
    have hb11 : PB 5 M11 (row 136 (wr N 135 5 0)) := t1.1.pb
    have en : nb 5 M11 = nb 5 M := by
      have a1 := hb11.bn
      have a2 := hT.1.pb.bn
      omega
    have emm : m' = m := by
      have a1 : rd M11 5 13 = row 136 (wr N 135 5 0) 52 := t1.1.ma
      have a2 : rd M 5 13 = row 136 (wr N 135 5 0) 52 := hT.1.ma
      rw [em', ← a2, em] at a1
      have := n_256 (by omega) m2'
      exact o_inj (by omega) (by omega) a1
    subst emm
    rw [em', f_or m' m256 b (by omega)] at s3
    have hO' : LOa (nb 5 M11) m' (wr N 135 5 0) N13 0 := by rw [en]; exact hO
    have hop : op M11 m' (2 * b + s) = true := by
      rw [cu_op hK.1 hb11 hO' m256 hK.1.2.1 (by omega)]; exact ho
    have st := hK.1.step (by omega) m256 hK.1.2.1 (by omega) hop
    rw [show (2 * b + s) / 2 = b by omega] at st
    have ev := pc_from st.2.2.2.2.2 h256 _ s3
    refine ⟨XR.inl th0 ?_, t1.sly hk⟩
    rw [ev]
    exact cu_cnt hK.1 (by omega) hb11 hO' hK.2.1 _ _ (Nat.le_refl _) h256 st.2.2.2.2.2
  · have ho : cnb N13 m (2 * b + s) = false := by
      cases hc : cnb N13 m (2 * b + s) with
      | false => rfl
      | true => exact absurd (z1.trans (w3.mp hc)) z
    have p2 := ite_f z p2
    have hz : rd N13 145 (16 * m + (2 * b + s)) = 0 := by
      by_cases q : rd N13 145 (16 * m + (2 * b + s)) = 0
      · exact q
      · rw [cnb_iff.mpr q] at ho; cases ho
    have hq := ite_t hz hq
    cases p2
    cases hq
    exact ⟨XR.inl th0 rfl, hS7.sly hk⟩
end NX
end
