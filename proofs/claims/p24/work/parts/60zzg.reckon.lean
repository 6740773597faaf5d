/-! the costs up to the end, behind each step -/
section RK
variable {k k' m : Nat} {M M' M0 : Mem} {a b c : Nat} {x3 x4 x5 x6 : Int32}
theorem price_eq (h2 : rd M' k' 2 = rd M k 2) (h7 : rd M' k' 7 = rd M k 7) (h8 : rd M' k' 8 = rd M k 8) (h9 : rd M' k' 9 = rd M k 9) (p q r s : Int32) : mX1_priceBetween k' p q r s M' = mX1_priceBetween k p q r s M := by
  unfold mX1_priceBetween mX1_priceBetween_b36 mX1_priceBetween_b54 mX1_goesUp
  rw [h2, h7, h8, h9]
/-- what the costs of a state look at -/
def CE (k : Nat) (M : Mem) (k' : Nat) (M' : Mem) (a : Nat) : Prop := (rd M' k' 0 = rd M k 0 ∧ rd M' k' 2 = rd M k 2 ∧ rd M' k' 7 = rd M k 7 ∧ rd M' k' 8 = rd M k 8 ∧ rd M' k' 9 = rd M k 9) ∧ rd M' (110 + 17) a = rd M (110 + 17) a ∧ (∀ c, c < 16 → rd M' (110 + 20) (16 * a + c) = rd M (110 + 20) (16 * a + c)) ∧ (∀ c, c < 16 → op M a c = true → (a ||| 2 ^ (c / 2)) < 256 ∧ rd M' (110 + 21) (16 * (a ||| 2 ^ (c / 2)) + c) = rd M (110 + 21) (16 * (a ||| 2 ^ (c / 2)) + c) ∧ rd M' (110 + 22) (16 * (a ||| 2 ^ (c / 2)) + c) = rd M (110 + 22) (16 * (a ||| 2 ^ (c / 2)) + c))
theorem thr_eq (h : CE k M k' M' a) (ha : a < 256) (hc : c < 16) : mX3_costThrough 110 k' (Int32.ofNat a) x3 x4 (Int32.ofNat c) x6 M' = mX3_costThrough 110 k (Int32.ofNat a) x3 x4 (Int32.ofNat c) x6 M := by
  obtain ⟨⟨h0, h2, h7, h8, h9⟩, h17, h20, h21⟩ := h
  have eo : op M' a c = op M a c := by unfold op; rw [h17]
  unfold mX3_costThrough
  rw [pc_isOpen ha hc, pc_isOpen ha hc, pc_setBehind ha hc, pc_setBehind ha hc, eo]
  cases ho : op M a c with
  | false => rfl
  | true =>
    have q := h21 c hc ho
    have ei : (Int32.ofNat (a ||| 2 ^ (c / 2)) * (16 : Int32) + Int32.ofNat c).toNatClampNeg = 16 * (a ||| 2 ^ (c / 2)) + c := f_15c q.1 hc
    have ej : (Int32.ofNat a * (16 : Int32) + Int32.ofNat c).toNatClampNeg = 16 * a + c := f_15c ha hc
    have b48 : ∀ y, mX3_costThrough_b48 110 k' M' (Int32.ofNat a) x3 x4 (Int32.ofNat c) y = mX3_costThrough_b48 110 k M (Int32.ofNat a) x3 x4 (Int32.ofNat c) y := fun y => by
      unfold mX3_costThrough_b48
      rw [ej, h20 c hc, price_eq h2 h7 h8 h9]
    show ite2 _ _ (cap (some _) (fun r6 => bnd _ (fun x7 => ite2 _ (chk _ (mX3_costThrough_b48 110 k' M' _ _ _ _ _)) (chk _ (mX3_costThrough_b48 110 k' M' _ _ _ _ _))))) = ite2 _ _ (cap (some _) (fun r6 => bnd _ (fun x7 => ite2 _ (chk _ (mX3_costThrough_b48 110 k M _ _ _ _ _)) (chk _ (mX3_costThrough_b48 110 k M _ _ _ _ _)))))
    show ite2 _ _ (ite2 _ (chk _ (mX3_costThrough_b48 110 k' M' _ _ _ _ (rd M' (110 + 22) (Int32.ofNat (a ||| 2 ^ (c / 2)) * (16 : Int32) + Int32.ofNat c).toNatClampNeg))) (chk _ (mX3_costThrough_b48 110 k' M' _ _ _ _ (rd M' (110 + 21) (Int32.ofNat (a ||| 2 ^ (c / 2)) * (16 : Int32) + Int32.ofNat c).toNatClampNeg)))) = ite2 _ _ (ite2 _ (chk _ (mX3_costThrough_b48 110 k M _ _ _ _ (rd M (110 + 22) (Int32.ofNat (a ||| 2 ^ (c / 2)) * (16 : Int32) + Int32.ofNat c).toNatClampNeg))) (chk _ (mX3_costThrough_b48 110 k M _ _ _ _ (rd M (110 + 21) (Int32.ofNat (a ||| 2 ^ (c / 2)) * (16 : Int32) + Int32.ofNat c).toNatClampNeg))))
    rw [ei, q.2.1, q.2.2, b48, b48]
theorem onw_l (h : CE k M k' M' a) (ha : a < 256) : ∀ (fuel c : Nat) (x6 : Int32), c ≤ 16 → mX3_costOnward_l16 110 k' M' fuel (Int32.ofNat a) x3 x4 x5 x6 (Int32.ofNat c) = mX3_costOnward_l16 110 k M fuel (Int32.ofNat a) x3 x4 x5 x6 (Int32.ofNat c) := by
  intro fuel
  induction fuel with
  | zero => intro c x6 _; rfl
  | succ fuel IH =>
    intro c x6 hc
    show mX3_costOnward_b16 110 k' M' (mX3_costOnward_l16 110 k' M' fuel) (Int32.ofNat a) x3 x4 x5 x6 (Int32.ofNat c) = mX3_costOnward_b16 110 k M (mX3_costOnward_l16 110 k M fuel) (Int32.ofNat a) x3 x4 x5 x6 (Int32.ofNat c)
    by_cases c16 : c = 16
    · subst c16; rfl
    · have hc16 : c < 16 := by omega
      have b88 : ∀ y, mX3_costOnward_b88 110 k' M' (mX3_costOnward_l16 110 k' M' fuel) (Int32.ofNat a) x3 x4 x5 y (Int32.ofNat c) = mX3_costOnward_b88 110 k M (mX3_costOnward_l16 110 k M fuel) (Int32.ofNat a) x3 x4 x5 y (Int32.ofNat c) := fun y => by
        have e : Int32.ofNat c + 1 = Int32.ofNat (c + 1) := (Int32.ofNat_add c 1).symm
        show mX3_costOnward_l16 110 k' M' fuel (Int32.ofNat a) x3 x4 x5 y (Int32.ofNat c + 1) = mX3_costOnward_l16 110 k M fuel (Int32.ofNat a) x3 x4 x5 y (Int32.ofNat c + 1)
        rw [e]
        exact IH (c + 1) y (by omega)
      have b71 : ∀ y z, mX3_costOnward_b71 110 k' M' (mX3_costOnward_l16 110 k' M' fuel) (Int32.ofNat a) x3 x4 x5 x6 (Int32.ofNat c) y z = mX3_costOnward_b71 110 k M (mX3_costOnward_l16 110 k M fuel) (Int32.ofNat a) x3 x4 x5 x6 (Int32.ofNat c) y z := fun y z => by
        unfold mX3_costOnward_b71
        rw [b88, b88]
      unfold mX3_costOnward_b16 mX3_costOnward_b66 mX3_costOnward_b70
      rw [thr_eq h ha hc16]
      congr 1
      congr 1
      funext r7
      rw [b71, b71]
theorem onw_eq (h : CE k M k' M' a) (ha : a < 256) : mX3_costOnward 110 k' (Int32.ofNat a) x3 x4 x5 M' = mX3_costOnward 110 k (Int32.ofNat a) x3 x4 x5 M := by
  have h0 := h.1.1
  unfold mX3_costOnward mX1_allBends mX1_bendCount
  rw [h0]
  congr 1
  funext r2
  congr 1
  exact onw_l h ha 5000 0 (-1) (by omega)
theorem small_eq (h : CE k M k' M' a) (ha : a < 256) : mX3_smallestStep 110 k' (Int32.ofNat a) x3 x4 x5 M' = mX3_smallestStep 110 k (Int32.ofNat a) x3 x4 x5 M := by
  have key : ∀ (fuel c : Nat), c ≤ 16 → mX3_smallestStep_l3 110 k' M' fuel (Int32.ofNat a) x3 x4 x5 (Int32.ofNat c) = mX3_smallestStep_l3 110 k M fuel (Int32.ofNat a) x3 x4 x5 (Int32.ofNat c) := by
    intro fuel
    induction fuel with
    | zero => intro c _; rfl
    | succ fuel IH =>
      intro c hc
      show mX3_smallestStep_b3 110 k' M' (mX3_smallestStep_l3 110 k' M' fuel) (Int32.ofNat a) x3 x4 x5 (Int32.ofNat c) = mX3_smallestStep_b3 110 k M (mX3_smallestStep_l3 110 k M fuel) (Int32.ofNat a) x3 x4 x5 (Int32.ofNat c)
      by_cases c16 : c = 16
      · subst c16; rfl
      · have e : Int32.ofNat c + 1 = Int32.ofNat (c + 1) := (Int32.ofNat_add c 1).symm
        unfold mX3_smallestStep_b3
        rw [thr_eq h ha (by omega)]
        congr 1
        congr 1
        funext r3
        congr 1
        show mX3_smallestStep_l3 110 k' M' fuel (Int32.ofNat a) x3 x4 x5 (Int32.ofNat c + 1) = mX3_smallestStep_l3 110 k M fuel (Int32.ofNat a) x3 x4 x5 (Int32.ofNat c + 1)
        rw [e]
        exact IH (c + 1) (by omega)
  exact key 5000 0 (by omega)
theorem CE.rf (h : ∀ c, c < 16 → op M a c = true → (a ||| 2 ^ (c / 2)) < 256) : CE k M k M a := ⟨⟨rfl, rfl, rfl, rfl, rfl⟩, rfl, fun _ _ => rfl, fun c hc ho => ⟨h c hc ho, rfl, rfl⟩⟩
/-- the costs behind a step -/
def LSp (k : Nat) (M : Mem) (b c : Nat) : Prop := mX3_costOnward 110 k (Int32.ofNat (b ||| 2 ^ (c / 2))) (Int32.ofNat c) (rd M (110 + 20) (16 * b + c)) 1 M = some (rd M (110 + 21) (16 * (b ||| 2 ^ (c / 2)) + c)) ∧ mX3_costOnward 110 k (Int32.ofNat (b ||| 2 ^ (c / 2))) (Int32.ofNat c) (rd M (110 + 20) (16 * b + c)) 0 M = some (rd M (110 + 22) (16 * (b ||| 2 ^ (c / 2)) + c))
def SCs (c j : Nat) : Prop := c = 131 ∨ c = 132 ∨ (c = 110 ∧ j ≤ 1)
theorem LSp.of (hL : LI k m M 256) (n8 : nb k M ≤ 8) (hb : b < 256) (hr : rc M b) (hc : c < 16) (ho : op M b c = true) (h : LSp k M b c) (hk : KS SCs M M') (k8 : k + 8 ≤ 110)
    (e : ∀ a, (b ||| 2 ^ (c / 2)) ≤ a → ∀ c', c' < 16 → (a = (b ||| 2 ^ (c / 2)) → c' = c) → rd M' (110 + 21) (16 * a + c') = rd M (110 + 21) (16 * a + c') ∧ rd M' (110 + 22) (16 * a + c') = rd M (110 + 22) (16 * a + c')) : LSp k M' b c := by
  have st := hL.step n8 hb hr hc ho
  have fr : ∀ c j, ¬ SCs c j → rd M' c j = rd M c j := hk
  have ce : CE k M k M' (b ||| 2 ^ (c / 2)) := by
    refine ⟨⟨fr _ _ ?_, fr _ _ ?_, fr _ _ ?_, fr _ _ ?_, fr _ _ ?_⟩, fr _ _ ?_, fun c' _ => fr _ _ ?_, fun c' hc' ho' => ?_⟩ <;> (try (unfold SCs; omega))
    have st2 := hL.step n8 st.2.2.2.2.1 st.2.2.2.2.2 hc' ho'
    have q := e ((b ||| 2 ^ (c / 2)) ||| 2 ^ (c' / 2)) (by omega) c' hc' (fun z => by omega)
    exact ⟨st2.2.2.2.2.1, q.1, q.2⟩
  have e20 : rd M' (110 + 20) (16 * b + c) = rd M (110 + 20) (16 * b + c) := fr _ _ (by unfold SCs; omega)
  have q := e _ (Nat.le_refl _) c hc (fun _ => rfl)
  unfold LSp
  rw [e20, onw_eq ce st.2.2.2.2.1, onw_eq ce st.2.2.2.2.1, q.1, q.2]
  exact h
theorem f_ox : ∀ a, a < 256 → ∀ t, t < 8 → (Int32.ofNat a &&& (((1 : Int32) <<< (Int32.ofNat t &&& 31)) ^^^ (-1 : Int32))) = Int32.ofNat (if a.testBit t then a - 2 ^ t else a) := by decide +kernel
theorem n_off : ∀ a, a < 256 → ∀ t, t < 8 → a.testBit t = true → (a - 2 ^ t) ||| 2 ^ t = a ∧ (a - 2 ^ t).testBit t = false := by decide +kernel
theorem n_off2 : ∀ b, b < 256 → ∀ t, t < 8 → b.testBit t = false → (b ||| 2 ^ t) - 2 ^ t = b ∧ (b ||| 2 ^ t).testBit t = true := by decide +kernel
end RK
