/-! the loops that reckon the costs -/
section RL
variable {k m : Nat} {M M' M0 : Mem} {a b c : Nat} {P : Mem × Unit → Prop}
/-- all steps that lead to a set from `a` on have their costs; those to the set `a` itself as far as `l` -/
def LSa (k : Nat) (M0 M : Mem) (a l : Nat) : Prop := ∀ b c, b < 256 → c < 16 → rc M0 b → op M0 b c = true → (a < (b ||| 2 ^ (c / 2)) ∨ (a = (b ||| 2 ^ (c / 2)) ∧ c < l)) → LSp k M b c
theorem LI.ks (h : LI k m M 256) (k8 : k + 8 ≤ 110) (hk : KS SCs M M') : LI k m M' 256 := by
  obtain ⟨h1, h2, h3, h4, h5⟩ := h
  have fr : ∀ c j, ¬ SCs c j → rd M' c j = rd M c j := hk
  have hb : BL k M k M' := BL.ks hk (fun c j h1 h2 z => by unfold SCs at z; omega)
  have en := hb.bn
  have e17 : ∀ j, rd M' (110 + 17) j = rd M (110 + 17) j := fun j => fr _ _ (by unfold SCs; omega)
  have e18 : ∀ j, rd M' (110 + 18) j = rd M (110 + 18) j := fun j => fr _ _ (by unfold SCs; omega)
  have eo : op M' = op M := by funext a c; unfold op; rw [e17]
  have er : rc M' = rc M := by funext a; unfold rc; rw [e18]
  refine ⟨h1.bl hb e17 (fun _ => fr _ _ (by unfold SCs; omega)), ?_, ?_, ?_, ?_⟩
  · rw [er]; exact h2
  · rw [er, en]; exact h3
  · intro b'; rw [er, eo, e17]; exact h4 b'
  · rw [er, eo]; exact h5
theorem f_m16 {a c : Nat} (ha : a < 256) (hc : c < 16) : (Int32.ofNat a * (16 : Int32) + Int32.ofNat c).toNatClampNeg = 16 * a + c := f_15c ha hc
theorem rk_in (hL : LI k m M0 256) (n8 : nb k M0 ≤ 8) (k8 : k + 8 ≤ 110) (ha : a < 256) : ∀ (fuel l : Nat) (M : Mem), l ≤ 16 → KS SCs M0 M → LSa k M0 M a l → Pc (mX3_reckonCostsBehind_l2 110 k fuel (Int32.ofNat a) (Int32.ofNat l) M) (fun q => KS SCs M0 q.1 ∧ LSa k M0 q.1 a 16) := by
  intro fuel
  induction fuel with
  | zero => intro l M _ _ _ q e; cases e
  | succ fuel IH =>
    intro l M hl hk h
    have fr : ∀ c j, ¬ SCs c j → rd M c j = rd M0 c j := hk
    have hLM : LI k m M 256 := hL.ks k8 hk
    have eo : ∀ b c, op M b c = op M0 b c := fun b c => by unfold op; rw [fr _ _ (by unfold SCs; omega)]
    have er : ∀ b, rc M b ↔ rc M0 b := fun b => by unfold rc; rw [fr _ _ (by unfold SCs; omega)]
    show Pc (mX3_reckonCostsBehind_b2 110 k (mX3_reckonCostsBehind_l2 110 k fuel) (Int32.ofNat a) (Int32.ofNat l) M) _
    unfold mX3_reckonCostsBehind_b2
    have tl : (Int32.ofNat l).toInt = (l : Int) := t_of (by omega)
    have n16 : ((16 : Int32)).toInt = 16 := rfl
    refine Pc.i (fun c1 => ?_) (fun c1 => ?_)
    · have c1 := i_le.mp c1
      have e : l = 16 := by omega
      subst e
      exact Pc.ok ⟨hk, h⟩
    have c1 := i_nle c1
    have l16 : l < 16 := by omega
    have next : ∀ M', KS SCs M0 M' → LSa k M0 M' a (l + 1) → Pc (mX3_reckonCostsBehind_b101 110 k (mX3_reckonCostsBehind_l2 110 k fuel) (Int32.ofNat a) (Int32.ofNat l) M') (fun q => KS SCs M0 q.1 ∧ LSa k M0 q.1 a 16) := by
      intro M' h1 h2
      unfold mX3_reckonCostsBehind_b101
      refine Pc.b (fun x ex => ?_)
      have e : x = Int32.ofNat (l + 1) := by rw [ex]; exact (Int32.ofNat_add l 1).symm
      rw [e]
      exact IH (l + 1) M' (by omega) h1 h2
    -- no step of this code leads here
    have skip : (∀ b, b < 256 → rc M0 b → op M0 b l = true → ¬ a = (b ||| 2 ^ (l / 2))) → LSa k M0 M a (l + 1) := fun q b c hb hc hr ho hq => by
      rcases hq with hq | ⟨hq, hcl⟩
      · exact h b c hb hc hr ho (Or.inl hq)
      · by_cases e : c = l
        · subst e; exact absurd hq (q b hb hr ho)
        · exact h b c hb hc hr ho (Or.inr ⟨hq, by omega⟩)
    rw [f_shr1c l l16, f_ox a ha (l / 2) (by omega)]
    refine Pc.b (fun x4 e4 => ?_)
    subst e4
    by_cases tb : a.testBit (l / 2) = true
    rotate_left
    · rw [if_neg tb]
      refine Pc.i (fun _ => next M hk (skip (fun b hb hr ho e => tb ?_))) (fun z => absurd rfl z)
      have st := hL.step n8 hb hr l16 ho
      rw [e]; exact (n_off2 b hb (l / 2) (by omega) st.2.1).2
    rw [if_pos tb]
    have no := n_off a ha (l / 2) (by omega) tb
    obtain ⟨bb, ebb⟩ : ∃ bb, bb = a - 2 ^ (l / 2) := ⟨_, rfl⟩
    rw [← ebb] at no ⊢
    have hbb : bb < 256 := Nat.lt_of_le_of_lt (by rw [ebb]; exact Nat.sub_le _ _) ha
    have hbb2 : bb ≠ a := fun e => by rw [e] at no; rw [tb] at no; exact absurd no.2 (by decide)
    have uniq : ∀ b, b < 256 → rc M0 b → op M0 b l = true → a = (b ||| 2 ^ (l / 2)) → b = bb := fun b hb hr ho e => by
      have st := hL.step n8 hb hr l16 ho
      have q := (n_off2 b hb (l / 2) (by omega) st.2.1).1
      rw [← e] at q
      exact q.symm.trans ebb.symm
    have cb : (Int32.ofNat bb).toNatClampNeg = bb := c_of (by omega)
    rw [cb]
    refine Pc.i (fun z => absurd (o_inj (by omega) (by omega) z) hbb2) (fun _ => Pc.k (fun _ => Pc.i (fun c2 => next M hk (skip (fun b hb hr ho e => ?_))) (fun c2 => ?_)))
    · have e2 := uniq b hb hr ho e
      subst e2
      exact absurd c2 ((er b).mpr hr)
    have hr : rc M0 bb := (er bb).mp c2
    rw [pc_isOpen hbb l16]
    refine Pc.c (Pc.ok (P := fun r => r = if op M bb l = true then 1 else 0) rfl) (fun r8 e8 => Pc.i (fun c3 => next M hk (skip (fun b hb hr' ho e => ?_))) (fun c3 => ?_))
    · have e2 := uniq b hb hr' ho e
      subst e2
      rw [if_pos (by rw [eo]; exact ho)] at e8
      rw [e8] at c3; exact absurd c3 (by decide)
    have ho : op M0 bb l = true := by
      by_cases q : op M bb l = true
      · rw [← eo]; exact q
      · rw [if_neg q] at e8; exact absurd e8 c3
    have i1 : (Int32.ofNat bb * (16 : Int32) + Int32.ofNat l).toNatClampNeg = 16 * bb + l := f_15c hbb l16
    have i2 : (Int32.ofNat a * (16 : Int32) + Int32.ofNat l).toNatClampNeg = 16 * a + l := f_15c ha l16
    rw [i1, i2]
    refine Pc.k (fun _ => Pc.b (fun x5 e5 => Pc.c (Pc.self _) (fun r14 e14 => Pc.k (fun _ => Pc.b (fun M18 e18 => Pc.c (Pc.self _) (fun r20 e20 => Pc.k (fun _ => Pc.b (fun M24 e24 => ?_))))))))
    subst e5
    subst e18
    subst e24
    have st := hL.step n8 hbb hr l16 ho
    have kM : KS SCs M (wr (wr M (110 + 21) (16 * a + l) r14) (110 + 22) (16 * a + l) r20) := (KS.rf.wr (Or.inl rfl)).wr (Or.inr (Or.inl rfl))
    have eq1 : ∀ a' c', ¬ (a' = a ∧ c' = l) → c' < 16 → rd (wr (wr M (110 + 21) (16 * a + l) r14) (110 + 22) (16 * a + l) r20) (110 + 21) (16 * a' + c') = rd M (110 + 21) (16 * a' + c') ∧ rd (wr (wr M (110 + 21) (16 * a + l) r14) (110 + 22) (16 * a + l) r20) (110 + 22) (16 * a' + c') = rd M (110 + 22) (16 * a' + c') := fun a' c' hne hc' => by
      constructor
      · rw [rd_wk (by decide), rd_wj (by omega)]
      · rw [rd_wj (by omega), rd_wk (by decide)]
    have stp : ∀ c', c' < 16 → op M a c' = true → (a ||| 2 ^ (c' / 2)) < 256 ∧ a < (a ||| 2 ^ (c' / 2)) := fun c' hc' ho' => by
      have ra : rc M a := by rw [er, ← no.1]; exact st.2.2.2.2.2
      have q := hLM.step (by have := (BL.ks (k := k) hk (fun c j h1 h2 z => by unfold SCs at z; omega)).bn; omega) ha ra hc' ho'
      exact ⟨q.2.2.2.2.1, q.2.2.1⟩
    have ceA : ∀ (v : Int32), CE k M k (wr M (110 + 21) (16 * a + l) v) a := fun v => by
      refine ⟨⟨rd_wk (by omega), rd_wk (by omega), rd_wk (by omega), rd_wk (by omega), rd_wk (by omega)⟩, rd_wk (by decide), fun _ _ => rd_wk (by decide), fun c' hc' ho' => ?_⟩
      have q := stp c' hc' ho'
      exact ⟨q.1, rd_wj (by omega), rd_wk (by decide)⟩
    have ceB : CE k M k (wr (wr M (110 + 21) (16 * a + l) r14) (110 + 22) (16 * a + l) r20) a := by
      refine ⟨⟨kM _ _ ?_, kM _ _ ?_, kM _ _ ?_, kM _ _ ?_, kM _ _ ?_⟩, kM _ _ ?_, fun _ _ => kM _ _ ?_, fun c' hc' ho' => ?_⟩ <;> (try (unfold SCs; omega))
      have q := stp c' hc' ho'
      exact ⟨q.1, eq1 _ _ (by omega) hc'⟩
    refine next _ (hk.trans kM) (fun b c hb hc hrb hob hq => ?_)
    by_cases e : a = (b ||| 2 ^ (c / 2)) ∧ c = l
    · obtain ⟨e1, e2⟩ := e
      subst e2
      have e3 := uniq b hb hrb hob e1
      subst e3
      unfold LSp
      rw [← e1]
      rw [onw_eq ceB ha, onw_eq ceB ha, kM (110 + 20) _ (by unfold SCs; omega)]
      constructor
      · rw [rd_wk (by decide), rd_we]; exact e14
      · rw [rd_we, ← onw_eq (ceA r14) ha]; exact e20
    · have hq2 : a < (b ||| 2 ^ (c / 2)) ∨ (a = (b ||| 2 ^ (c / 2)) ∧ c < l) := by
        rcases hq with hq | ⟨hq, hcl⟩
        · exact Or.inl hq
        · exact Or.inr ⟨hq, by
            have : c ≠ l := fun z => e ⟨hq, z⟩
            omega⟩
      have en : nb k M = nb k M0 := (BL.ks (k := k) hk (fun c j h1 h2 z => by unfold SCs at z; omega)).bn
      refine (h b c hb hc hrb hob hq2).of hLM (by omega) hb ((er b).mpr hrb) hc (by rw [eo]; exact hob) kM k8 (fun a' ha' c' hc' hcc => eq1 a' c' (fun z => ?_) hc')
      obtain ⟨z1, z2⟩ := z
      subst z1
      rcases hq2 with q | ⟨q, q2⟩
      · omega
      · have := hcc q; omega
def LSd (k : Nat) (M0 M : Mem) (a : Nat) : Prop := ∀ b c, b < 256 → c < 16 → rc M0 b → op M0 b c = true → a ≤ (b ||| 2 ^ (c / 2)) → LSp k M b c
theorem rk_out (hL : LI k m M0 256) (n8 : nb k M0 ≤ 8) (k8 : k + 8 ≤ 110) (hm : rd M0 k 13 = Int32.ofNat m) (m256 : m < 256) {lc lg : Int32} (elc : mX1_lastCode k M0 = some lc) (elg : mX1_lastGauge k M0 = some lg) : ∀ (fuel a : Nat) (x : Int32) (M : Mem), x.toInt = (a : Int) - 1 → a ≤ 256 → KS SCs M0 M → LSd k M0 M a →
    Pc (mX3_reckonCosts_l4 110 k fuel x M) (fun q => KS SCs M0 q.1 ∧ LSd k M0 q.1 0 ∧ mX3_costOnward 110 k (Int32.ofNat m) lc lg 1 q.1 = some (rd q.1 110 0) ∧ mX3_costOnward 110 k (Int32.ofNat m) lc lg 0 q.1 = some (rd q.1 110 1)) := by
  intro fuel
  induction fuel with
  | zero => intro a x M _ _ _ _ q e; cases e
  | succ fuel IH =>
    intro a x M hx ha hk h
    have fr : ∀ c j, ¬ SCs c j → rd M c j = rd M0 c j := hk
    have hLM : LI k m M 256 := hL.ks k8 hk
    have en : nb k M = nb k M0 := (BL.ks (k := k) hk (fun c j h1 h2 z => by unfold SCs at z; omega)).bn
    have er : ∀ b, rc M b ↔ rc M0 b := fun b => by unfold rc; rw [fr _ _ (by unfold SCs; omega)]
    have em : rd M k 13 = Int32.ofNat m := (fr _ _ (by unfold SCs; omega)).trans hm
    have hG : GL k M0 k M := GL.ks hk (fun c j h1 h2 z => by unfold SCs at z; omega)
    have tm : (Int32.ofNat m).toInt = (m : Int) := t_of (by omega)
    show Pc (mX3_reckonCosts_b4 110 k (mX3_reckonCosts_l4 110 k fuel) x M) _
    unfold mX3_reckonCosts_b4
    rw [em]
    refine Pc.i (fun c => ?_) (fun c => ?_)
    · have c := i_le.mp c
      rw [hG.2.1, elc, hG.2.2.1, elg]
      refine Pc.c (Pc.ok (P := fun r => r = lc) rfl) (fun r3 e3 => Pc.c (Pc.ok (P := fun r => r = lg) rfl) (fun r6 e6 => ?_))
      subst e3
      subst e6
      refine Pc.c (Pc.self _) (fun r9 e9 => Pc.b (fun M11 e11 => ?_))
      have k11 : KS SCs M M11 := by rw [e11]; exact KS.rf.wr (Or.inr (Or.inr ⟨rfl, by omega⟩))
      have G11 : GL k M0 k M11 := hG.tr (GL.ks k11 (fun c j h1 h2 z => by unfold SCs at z; omega))
      rw [G11.2.1, elc, G11.2.2.1, elg, G11.1, hm]
      refine Pc.c (Pc.ok (P := fun r => r = r3) rfl) (fun r14 e14 => Pc.c (Pc.ok (P := fun r => r = r6) rfl) (fun r17 e17 => ?_))
      subst e14
      subst e17
      refine Pc.c (Pc.self _) (fun r20 e20 => Pc.b (fun M22 e22 => Pc.ok ?_))
      have k22 : KS (fun c j => c = 110 ∧ j ≤ 1) M M22 := by rw [e22, e11]; exact (KS.rf.wr ⟨rfl, by omega⟩).wr ⟨rfl, by omega⟩
      have k22' : KS SCs M M22 := k22.mono (fun c j h => Or.inr (Or.inr h))
      have ce : ∀ b, b < 256 → rc M b → ∀ M', KS (fun c j => c = 110 ∧ j ≤ 1) M M' → CE k M k M' b := fun b hb hr M' hk' => by
        refine ⟨⟨hk' _ _ (by omega), hk' _ _ (by omega), hk' _ _ (by omega), hk' _ _ (by omega), hk' _ _ (by omega)⟩, hk' _ _ (by omega), fun _ _ => hk' _ _ (by omega), fun c' hc' ho' => ?_⟩
        exact ⟨(hLM.step (by omega) hb hr hc' ho').2.2.2.2.1, hk' _ _ (by omega), hk' _ _ (by omega)⟩
      have cm : ∀ M', KS (fun c j => c = 110 ∧ j ≤ 1) M M' → CE k M k M' m := ce m m256 hLM.2.1
      have k11' : KS (fun c j => c = 110 ∧ j ≤ 1) M M11 := by rw [e11]; exact KS.rf.wr ⟨rfl, by omega⟩
      refine ⟨hk.trans k22', fun b c hb hc hr ho _ => ?_, ?_, ?_⟩
      · have hge : m ≤ b := by
          have := (hL.2.2.1 b hb hr).2
          rw [← this]; exact Nat.and_le_left
        have st := hL.step n8 hb hr hc ho
        have q := h b c hb hc hr ho (by omega)
        refine q.of hLM (by omega) hb ((er b).mpr hr) hc (by unfold op; rw [fr _ _ (by unfold SCs; omega)]; exact ho) k22' k8 (fun a' _ c' _ _ => ⟨k22 _ _ (by omega), k22 _ _ (by omega)⟩)
      · rw [onw_eq (cm M22 k22) m256, e22, rd_wj (by decide), e11, rd_we]; exact e9
      · rw [onw_eq (cm M22 k22) m256, ← onw_eq (cm M11 k11') m256, e22, rd_we]; exact e20
    · have c := i_nle c
      obtain ⟨b, rfl⟩ : ∃ b, a = b + 1 := ⟨a - 1, by omega⟩
      have ex : x = Int32.ofNat b := by
        rw [o_of (x := x) (by omega)]; congr 1; omega
      subst ex
      have cb : (Int32.ofNat b).toNatClampNeg = b := c_of (by omega)
      rw [cb]
      have next : ∀ M', KS SCs M0 M' → LSd k M0 M' b → Pc (mX3_reckonCosts_b27 110 k (mX3_reckonCosts_l4 110 k fuel) (Int32.ofNat b) M') (fun q => KS SCs M0 q.1 ∧ LSd k M0 q.1 0 ∧ mX3_costOnward 110 k (Int32.ofNat m) lc lg 1 q.1 = some (rd q.1 110 0) ∧ mX3_costOnward 110 k (Int32.ofNat m) lc lg 0 q.1 = some (rd q.1 110 1)) := by
        intro M' h1 h2
        unfold mX3_reckonCosts_b27
        refine Pc.b (fun x ex => ?_)
        refine IH b x M' ?_ (by omega) h1 h2
        have nm1 : ((-1 : Int32)).toInt = -1 := rfl
        have tb : (Int32.ofNat b).toInt = (b : Int) := t_of (by omega)
        rw [ex, i_add (by omega) (by omega)]; omega
      refine Pc.k (fun _ => Pc.i (fun c2 => next M hk (fun b' c' hb' hc' hr' ho' hq => ?_)) (fun c2 => ?_))
      · by_cases e : b = (b' ||| 2 ^ (c' / 2))
        · have st := hL.step n8 hb' hr' hc' ho'
          rw [← e] at st
          exact absurd c2 ((er b).mpr st.2.2.2.2.2)
        · exact h b' c' hb' hc' hr' ho' (by omega)
      · unfold mX3_reckonCostsBehind
        refine Pc.m (rk_in hL n8 k8 (by omega) 5000 0 M (by omega) hk (fun b' c' hb' hc' hr' ho' hq => ?_)) (fun M29 _ p => next M29 p.1 (fun b' c' hb' hc' hr' ho' hq => p.2 b' c' hb' hc' hr' ho' ?_))
        · rcases hq with hq | ⟨_, hq⟩
          · exact h b' c' hb' hc' hr' ho' (by omega)
          · omega
        · by_cases e : b = (b' ||| 2 ^ (c' / 2))
          · exact Or.inr ⟨e, hc'⟩
          · exact Or.inl (by omega)
theorem pc_reckon (hL : LI k m M 256) (h9 : (rd M k 0).toInt ≤ 9) (k8 : k + 8 ≤ 110) (hm : rd M k 13 = Int32.ofNat m) (m256 : m < 256) {lc lg : Int32} (elc : mX1_lastCode k M = some lc) (elg : mX1_lastGauge k M = some lg) : Pc (mX3_reckonCosts 110 k M) (fun q => KS SCs M q.1 ∧ LSd k M q.1 0 ∧ mX3_costOnward 110 k (Int32.ofNat m) lc lg 1 q.1 = some (rd q.1 110 0) ∧ mX3_costOnward 110 k (Int32.ofNat m) lc lg 0 q.1 = some (rd q.1 110 1)) := by
  unfold mX3_reckonCosts
  refine rk_out hL (nb8 h9) k8 hm m256 elc elg 5000 256 255 M (by decide) (by omega) KS.rf (fun b c hb hc hr ho hq => ?_)
  have st := hL.step (nb8 h9) hb hr hc ho
  omega
end RL
