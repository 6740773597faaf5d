/-! the class counts the orders, reckons the costs -/
def csum (x0 : Int64) (o : Nat → Bool) (t : Nat → Int64) : Nat → Int64
  | 0 => x0
  | c + 1 => if o c = true then csum x0 o t c + t c else csum x0 o t c
def CN (k : Nat) (M : Mem) : Prop := ∀ a, a < 256 → rc M a → rl M (110 + 19) a = csum (if a = 2 ^ nb k M - 1 then 1 else 0) (op M a) (fun c => rl M (110 + 19) (a ||| 2 ^ (c / 2))) 16
section CT
variable {k k' m : Nat} {M M' M0 : Mem} {a b c : Nat}
theorem csum_eq {x0 : Int64} {o o' : Nat → Bool} {t t' : Nat → Int64} : ∀ n, (∀ c, c < n → o' c = o c) → (∀ c, c < n → o c = true → t' c = t c) → csum x0 o' t' n = csum x0 o t n := by
  intro n
  induction n with
  | zero => intro _ _; rfl
  | succ n IH =>
    intro h1 h2
    show (if o' n = true then csum x0 o' t' n + t' n else csum x0 o' t' n) = (if o n = true then csum x0 o t n + t n else csum x0 o t n)
    rw [h1 n (by omega), IH (fun c hc => h1 c (by omega)) (fun c hc => h2 c (by omega))]
    by_cases q : o n = true
    · rw [if_pos q, if_pos q, h2 n (by omega) q]
    · rw [if_neg q, if_neg q]
/-- a step from a state that is come to -/
theorem LI.step (h : LI k m M 256) (n8 : nb k M ≤ 8) (ha : a < 256) (hr : rc M a) (hc : c < 16) (ho : op M a c = true) : c < 2 * nb k M ∧ a.testBit (c / 2) = false ∧ a < (a ||| 2 ^ (c / 2)) ∧ (a ||| 2 ^ (c / 2)) < 2 ^ nb k M ∧ (a ||| 2 ^ (c / 2)) < 256 ∧ rc M (a ||| 2 ^ (c / 2)) := by
  have hn := h.2.2.1 a ha hr
  have hq := h.2.2.2.1 a ha ha hr
  have hT := h.1 a hn.1 hq.1
  have hc2 : c < 2 * nb k M := by
    by_cases q : c < 2 * nb k M
    · exact q
    · exact absurd (hT.2 c (by omega)) (by unfold op at ho; rw [ho]; decide)
  have hb := ((hT.1 c hc2).1 ho).2.2
  have hz := z_set (nb k M) (by omega) a hn.1 (c / 2) (by omega) hb
  exact ⟨hc2, hb, hz.2.1, hz.2.2.1, n_256 n8 hz.2.2.1, hq.2 c hc ho⟩
theorem LI.full (h : LI k m M 256) (n8 : nb k M ≤ 8) (ha : a < 256) (hr : rc M a) (hc : c < 16) (ho : op M a c = true) : a ≠ 2 ^ nb k M - 1 := by
  have q := h.step n8 ha hr hc ho
  omega
theorem pc_allB (h9 : (rd M k 0).toInt ≤ 9) : Pc (mX1_allBends k M) (fun r => r = Int32.ofNat (2 ^ nb k M - 1)) := by
  unfold mX1_allBends
  refine Pc.c (pc_bends h9) (fun r e => Pc.ok ?_)
  have n8 := nb8 h9
  subst e
  exact f_full (nb k M) (by omega)
theorem co_in (n8 : nb k M0 ≤ 8) (hL : LI k m M0 256) (ha : a < 256) {P : Mem × Unit → Prop} {x2 : Int32} {ih9 : Int32 → Int32 → Mem → Option (Mem × Unit)} (x0 : Int64)
    (H : ∀ M, (∀ c j, rd M c j = rd M0 c j) → (∀ b, a < b → rl M (110 + 19) b = rl M0 (110 + 19) b) → (rc M0 a → rl M (110 + 19) a = csum x0 (op M0 a) (fun c => rl M0 (110 + 19) (a ||| 2 ^ (c / 2))) 16) → Pc (ih9 x2 (Int32.ofNat a + (-1 : Int32)) M) P) :
    ∀ (fuel c : Nat) (M : Mem), c ≤ 16 → (∀ c j, rd M c j = rd M0 c j) → (∀ b, a < b → rl M (110 + 19) b = rl M0 (110 + 19) b) → (rc M0 a → rl M (110 + 19) a = csum x0 (op M0 a) (fun c => rl M0 (110 + 19) (a ||| 2 ^ (c / 2))) c) → Pc (mX3_countOrders_l32 110 k ih9 fuel x2 (Int32.ofNat a) (Int32.ofNat c) M) P := by
  intro fuel
  induction fuel with
  | zero => intro c M _ _ _ _ q e; cases e
  | succ fuel IH =>
    intro c M hc hk hl hs
    show Pc (mX3_countOrders_b32 110 k ih9 (mX3_countOrders_l32 110 k ih9 fuel) x2 (Int32.ofNat a) (Int32.ofNat c) M) _
    unfold mX3_countOrders_b32
    have tc : (Int32.ofNat c).toInt = (c : Int) := t_of (by omega)
    have n16 : ((16 : Int32)).toInt = 16 := rfl
    have ca : (Int32.ofNat a).toNatClampNeg = a := c_of (by omega)
    refine Pc.i (fun c1 => ?_) (fun c1 => ?_)
    · have c1 := i_le.mp c1
      have e : c = 16 := by omega
      subst e
      exact Pc.b (fun x ex => by subst ex; exact H M hk hl hs)
    · have c1 := i_nle c1
      have hc16 : c < 16 := by omega
      have eo : op M a c = op M0 a c := by unfold op; rw [hk]
      have er : rc M a ↔ rc M0 a := by unfold rc; rw [hk]
      have next : ∀ M', (∀ c j, rd M' c j = rd M0 c j) → (∀ b, a < b → rl M' (110 + 19) b = rl M0 (110 + 19) b) → (rc M0 a → rl M' (110 + 19) a = csum x0 (op M0 a) (fun c => rl M0 (110 + 19) (a ||| 2 ^ (c / 2))) (c + 1)) → Pc (mX3_countOrders_b78 110 k ih9 (mX3_countOrders_l32 110 k ih9 fuel) x2 (Int32.ofNat a) (Int32.ofNat c) M') P := by
        intro M' h1 h2 h3
        unfold mX3_countOrders_b78
        refine Pc.b (fun x ex => ?_)
        have e : x = Int32.ofNat (c + 1) := by rw [ex]; exact (Int32.ofNat_add c 1).symm
        rw [e]
        exact IH (c + 1) M' (by omega) h1 h2 h3
      rw [ca, pc_isOpen ha hc16, pc_setBehind ha hc16]
      refine Pc.k (fun _ => Pc.i (fun c2 => next M hk hl (fun z => absurd c2 (er.mpr z))) (fun c2 => ?_))
      have hr := er.mp c2
      refine Pc.c (Pc.ok (P := fun r => r = if op M a c = true then 1 else 0) rfl) (fun r21 e21 => Pc.i (fun c3 => next M hk hl (fun _ => ?_)) (fun c3 => ?_))
      · have ho : ¬ op M0 a c = true := fun z => by
          rw [eo, if_pos z] at e21
          rw [e21] at c3; exact absurd c3 (by decide)
        show _ = if op M0 a c = true then _ else _
        rw [if_neg ho]; exact hs hr
      · have ho : op M0 a c = true := by
          by_cases q : op M0 a c = true
          · exact q
          · rw [eo, if_neg q] at e21; exact absurd e21 c3
        have st := hL.step n8 ha hr hc16 ho
        refine Pc.k (fun _ => Pc.c (Pc.ok (P := fun r => r = Int32.ofNat (a ||| 2 ^ (c / 2))) rfl) (fun r25 e25 => Pc.k (fun _ => Pc.k (fun _ => Pc.b (fun M29 e29 => ?_)))))
        rw [e25, c_of (by omega)] at e29
        subst e29
        refine next _ hk (fun b hb => (rl_wj (by omega)).trans (hl b hb)) (fun _ => ?_)
        show _ = if op M0 a c = true then _ else _
        rw [if_pos ho, rl_we, hs hr, hl _ st.2.2.1]
theorem co_out (n8 : nb k M0 ≤ 8) (hL : LI k m M0 256) : ∀ (fuel a : Nat) (x : Int32) (M : Mem), x.toInt = (a : Int) - 1 → a ≤ 256 → (∀ c j, rd M c j = rd M0 c j) → (∀ b, a ≤ b → b < 256 → rc M0 b → rl M (110 + 19) b = csum (if b = 2 ^ nb k M0 - 1 then 1 else 0) (op M0 b) (fun c => rl M (110 + 19) (b ||| 2 ^ (c / 2))) 16) → Pc (mX3_countOrders_l9 110 k fuel (Int32.ofNat (2 ^ nb k M0 - 1)) x M) (fun q => (∀ c j, rd q.1 c j = rd M0 c j) ∧ CN k q.1) := by
  have p2 : 2 ^ nb k M0 ≤ 256 := by
    have : 2 ^ nb k M0 ≤ 2 ^ 8 := Nat.pow_le_pow_right (by decide) n8
    have h8 : (2 : Nat) ^ 8 = 256 := rfl
    omega
  intro fuel
  induction fuel with
  | zero => intro a x M _ _ _ _ q e; cases e
  | succ fuel IH =>
    intro a x M hx ha hk h
    show Pc (mX3_countOrders_b9 110 k (mX3_countOrders_l9 110 k fuel) (Int32.ofNat (2 ^ nb k M0 - 1)) x M) _
    unfold mX3_countOrders_b9
    have n0 : ((0 : Int32)).toInt = 0 := rfl
    refine Pc.i (fun c => ?_) (fun c => ?_)
    · have c := i_lt.mp c
      have e : a = 0 := by omega
      subst e
      refine Pc.ok ⟨hk, fun b hb hr => ?_⟩
      have en : nb k M = nb k M0 := by unfold nb; rw [hk]
      have eo : op M b = op M0 b := by funext c; unfold op; rw [hk]
      have er : rc M0 b := by unfold rc; rw [← hk]; exact hr
      rw [en, eo]
      exact h b (by omega) hb er
    · have c := i_nlt c
      obtain ⟨b, rfl⟩ : ∃ b, a = b + 1 := ⟨a - 1, by omega⟩
      have ex : x = Int32.ofNat b := by
        rw [o_of (x := x) (by omega)]; congr 1; omega
      subst ex
      have cb : (Int32.ofNat b).toNatClampNeg = b := c_of (by omega)
      have go : ∀ v : Int64, (v = if b = 2 ^ nb k M0 - 1 then 1 else 0) → Pc (mX3_countOrders_b28 110 k (mX3_countOrders_l9 110 k fuel) (Int32.ofNat (2 ^ nb k M0 - 1)) (Int32.ofNat b) (Int32.ofNat b) v M) (fun q => (∀ c j, rd q.1 c j = rd M0 c j) ∧ CN k q.1) := by
        intro v hv
        unfold mX3_countOrders_b28
        rw [cb]
        refine Pc.k (fun _ => Pc.b (fun M8 e8 => ?_))
        have k8 : ∀ c j, rd M8 c j = rd M0 c j := fun c j => by rw [e8]; exact hk c j
        have l8 : ∀ b', ¬ b' = b → rl M8 (110 + 19) b' = rl M (110 + 19) b' := fun b' hb' => by rw [e8]; exact rl_wj hb'
        have hL8 : LI k m M8 256 := by
          obtain ⟨h1, h2, h3, h4, h5⟩ := hL
          have en : nb k M8 = nb k M0 := by unfold nb; rw [k8]
          have eo : op M8 = op M0 := by funext a c; unfold op; rw [k8]
          have er : rc M8 = rc M0 := by funext a; unfold rc; rw [k8]
          refine ⟨h1.bl ⟨k8 _ _, k8 _ _, fun _ _ _ => k8 _ _, fun _ _ => k8 _ _⟩ (fun _ => k8 _ _) (fun _ => k8 _ _), ?_, ?_, ?_, ?_⟩
          · rw [er]; exact h2
          · rw [er, en]; exact h3
          · intro b'; rw [er, eo, k8]; exact h4 b'
          · rw [er, eo]; exact h5
        have n8' : nb k M8 ≤ 8 := by have en : nb k M8 = nb k M0 := by unfold nb; rw [k8]
                                     omega
        refine co_in (M0 := M8) n8' hL8 (by omega) v (fun M2 q1 q2 q3 => ?_) 5000 0 M8 (by omega) (fun _ _ => rfl) (fun _ _ => rfl) (fun _ => by rw [e8, rl_we]; rfl)
        have eo : op M8 = op M0 := by funext a c; unfold op; rw [k8]
        have er : rc M8 = rc M0 := by funext a; unfold rc; rw [k8]
        rw [eo, er] at q3
        refine IH b _ M2 (by rw [i_add (by rw [t_of (by omega), show ((-1 : Int32)).toInt = -1 from rfl]; omega) (by rw [t_of (by omega), show ((-1 : Int32)).toInt = -1 from rfl]; omega), t_of (by omega), show ((-1 : Int32)).toInt = -1 from rfl]; omega) (by omega) (fun c j => (q1 c j).trans (k8 c j)) (fun b' hb1 hb2 hr => ?_)
        have hst : ∀ c, c < 16 → op M0 b' c = true → b' < (b' ||| 2 ^ (c / 2)) := fun c hc ho => (hL.step n8 hb2 hr hc ho).2.2.1
        by_cases e : b' = b
        · subst e
          rw [q3 hr, hv]
          refine csum_eq 16 (fun _ _ => rfl) (fun c hc ho => ?_)
          exact (q2 _ (hst c hc ho)).symm
        · rw [q2 b' (by omega), l8 b' e, h b' (by omega) hb2 hr]
          refine csum_eq 16 (fun _ _ => rfl) (fun c hc ho => ?_)
          have := hst c hc ho
          show rl M (110 + 19) (b' ||| 2 ^ (c / 2)) = rl M2 (110 + 19) (b' ||| 2 ^ (c / 2))
          rw [q2 _ (by omega), l8 _ (by omega)]
      refine Pc.i (fun c2 => go 1 ?_) (fun c2 => go 0 ?_)
      · have e : b = 2 ^ nb k M0 - 1 := o_inj (by omega) (by omega) c2
        rw [if_pos e]
      · rw [if_neg (fun e => c2 (by rw [e]))]
theorem pc_countOrders (h9 : (rd M k 0).toInt ≤ 9) (hL : LI k m M 256) : Pc (mX3_countOrders 110 k M) (fun q => (∀ c j, rd q.1 c j = rd M c j) ∧ CN k q.1) := by
  unfold mX3_countOrders
  refine Pc.c (pc_allB h9) (fun r e => ?_)
  subst e
  exact co_out (nb8 h9) hL 5000 256 255 M (by decide) (by omega) (fun _ _ => rfl) (fun b hb h2 => by omega)
end CT
