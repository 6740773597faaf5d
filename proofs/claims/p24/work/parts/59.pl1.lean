/-! the reference's plan: what its tables tell -/
def cntz (a : Nat) : Nat → Nat
  | 0 => 0
  | k + 1 => cntz a k + (if a.testBit k then 0 else 1)
theorem z_setb : (List.range 9).all (fun n => (List.range (2 ^ n)).all (fun a => (List.range n).all (fun k => a.testBit k || (decide (cntz (a ||| 2 ^ k) n + 1 = cntz a n) && decide (a < (a ||| 2 ^ k)) && decide ((a ||| 2 ^ k) < 2 ^ n) && (a ||| 2 ^ k).testBit k)))) = true := by decide +kernel
theorem z_set (n : Nat) (hn : n < 9) (a : Nat) (ha : a < 2 ^ n) (k : Nat) (hk : k < n) (h : a.testBit k = false) : cntz (a ||| 2 ^ k) n + 1 = cntz a n ∧ a < (a ||| 2 ^ k) ∧ (a ||| 2 ^ k) < 2 ^ n ∧ (a ||| 2 ^ k).testBit k = true := by
  have h1 := List.all_eq_true.mp z_setb n (List.mem_range.mpr hn)
  have h2 := List.all_eq_true.mp h1 a (List.mem_range.mpr ha)
  have h3 := List.all_eq_true.mp h2 k (List.mem_range.mpr hk)
  rw [h, Bool.false_or, Bool.and_eq_true, Bool.and_eq_true, Bool.and_eq_true] at h3
  exact ⟨of_decide_eq_true h3.1.1.1, of_decide_eq_true h3.1.1.2, of_decide_eq_true h3.1.2, h3.2⟩
theorem z_full : ∀ n, n < 9 → ∀ a, a < 2 ^ n → cntz a n ≤ 8 ∧ (cntz a n = 0 → a = 2 ^ n - 1) := by decide +kernel
theorem z_full2 : ∀ n, n < 9 → cntz (2 ^ n - 1) n = 0 ∧ ∀ k, k < n → (2 ^ n - 1).testBit k = true := by decide +kernel
theorem z_pow : ∀ n, n < 9 → 1 ≤ 2 ^ n ∧ 2 ^ n ≤ 256 := by decide
theorem z_sup {a m k : Nat} (h : a &&& m = m) : (a ||| 2 ^ k) &&& m = m := by
  apply Nat.eq_of_testBit_eq
  intro i
  have h2 := congrArg (fun x => x.testBit i) h
  simp only [Nat.testBit_and, Nat.testBit_or] at h2 ⊢
  cases h3 : m.testBit i <;> cases h4 : a.testBit i <;> simp_all
theorem f_or : ∀ a, a < 256 → ∀ k, k < 8 → (Int32.ofNat a ||| ((1 : Int32) <<< (Int32.ofNat k &&& 31))) = Int32.ofNat (a ||| 2 ^ k) := by decide +kernel
theorem f_half : ∀ c, c < 17 → Int32.ofNat c / (2 : Int32) = Int32.ofNat (c / 2) := by decide +kernel
theorem f_mod : ∀ c, c < 16 → (Int32.ofNat c - Int32.ofNat c / (2 : Int32) * (2 : Int32)) = Int32.ofNat (c % 2) := by decide +kernel
theorem f_has : ∀ a, a < 256 → ∀ k, k < 8 → ((((Int32.ofNat a >>> (Int32.ofNat k &&& 31)) &&& (1 : Int32)) = (1 : Int32)) ↔ a.testBit k = true) := by decide +kernel
theorem f_full : ∀ n, n < 9 → ((1 : Int32) <<< (Int32.ofNat n &&& 31)) - (1 : Int32) = Int32.ofNat (2 ^ n - 1) := by decide +kernel
theorem t_of {a : Nat} (h : a < 100000) : (Int32.ofNat a).toInt = (a : Int) := toInt_of rfl (by omega)
theorem c_of {a : Nat} (h : a < 100000) : (Int32.ofNat a).toNatClampNeg = a := by rw [i_clamp, t_of h]; rfl
theorem o_inj {a b : Nat} (ha : a < 100000) (hb : b < 100000) (h : Int32.ofNat a = Int32.ofNat b) : a = b := by
  have := congrArg Int32.toInt h
  rw [t_of ha, t_of hb] at this
  omega
theorem o_of {x : Int32} (h : 0 ≤ x.toInt) : x = Int32.ofNat x.toInt.toNat := i_nn (fun h => by have := i_lt.mp h; rw [Int32.toInt_zero] at this; omega)
theorem o_and {a m : Nat} (ha : a < 256) (hm : m < 256) : (Int32.ofNat a &&& Int32.ofNat m) = Int32.ofNat (a &&& m) := by
  rw [← Int32.toBitVec_inj]
  apply BitVec.eq_of_toNat_eq
  have e1 : (Int32.ofNat a).toBitVec.toNat = a := by
    have h1 := i_nn2 (x := Int32.ofNat a) (by rw [t_of (by omega)]; omega)
    rw [t_of (by omega)] at h1; omega
  have e2 : (Int32.ofNat m).toBitVec.toNat = m := by
    have h1 := i_nn2 (x := Int32.ofNat m) (by rw [t_of (by omega)]; omega)
    rw [t_of (by omega)] at h1; omega
  have h3 : a &&& m ≤ a := Nat.and_le_left
  have e3 : (Int32.ofNat (a &&& m)).toBitVec.toNat = a &&& m := by
    have h1 := i_nn2 (x := Int32.ofNat (a &&& m)) (by rw [t_of (by omega)]; omega)
    rw [t_of (by omega)] at h1; omega
  rw [e3]
  show ((Int32.ofNat a).toBitVec &&& (Int32.ofNat m).toBitVec).toNat = _
  rw [BitVec.toNat_and, e1, e2]
theorem ix16 {a c : Nat} (ha : a < 256) (hc : c < 16) : ((16 : Int32) * Int32.ofNat a + Int32.ofNat c).toInt = 16 * (a : Int) + c := by
  have e := i_mulc (a := (16 : Int32)) (b := Int32.ofNat a) (c := 16) rfl (by rw [t_of (by omega)]; omega) (by rw [t_of (by omega)]; omega)
  rw [i_add (by rw [e, t_of (by omega), t_of (by omega)]; omega) (by rw [e, t_of (by omega), t_of (by omega)]; omega), e, t_of (by omega), t_of (by omega)]
theorem ix17 {a c : Nat} (ha : a < 256) (hc : c < 17) : ((17 : Int32) * Int32.ofNat a + Int32.ofNat c).toInt = 17 * (a : Int) + c := by
  have e := i_mulc (a := (17 : Int32)) (b := Int32.ofNat a) (c := 17) rfl (by rw [t_of (by omega)]; omega) (by rw [t_of (by omega)]; omega)
  rw [i_add (by rw [e, t_of (by omega), t_of (by omega)]; omega) (by rw [e, t_of (by omega), t_of (by omega)]; omega), e, t_of (by omega), t_of (by omega)]
theorem ix16c {a c : Nat} (ha : a < 256) (hc : c < 16) : ((16 : Int32) * Int32.ofNat a + Int32.ofNat c).toNatClampNeg = 16 * a + c := by rw [i_clamp, ix16 ha hc]; omega
theorem ix17c {a c : Nat} (ha : a < 256) (hc : c < 17) : ((17 : Int32) * Int32.ofNat a + Int32.ofNat c).toNatClampNeg = 17 * a + c := by rw [i_clamp, ix17 ha hc]; omega
theorem l_add {x y : Int64} (hx : 0 ≤ x.toInt ∧ x.toInt ≤ 1099511627776) (hy : 0 ≤ y.toInt ∧ y.toInt ≤ 1099511627776) : (x + y).toInt = x.toInt + y.toInt := by
  rw [Int64.toInt_add]; exact Int.bmod_eq_of_le (by omega) (by omega)
theorem rl_we {M : Mem} {k j : Nat} {v : Int64} : rl (wl M k j v) k j = v := by
  show (if k = k then vp_updL (M.2.1 k) j v else M.2.1 k) j = v
  rw [if_pos rfl]; exact if_pos rfl
theorem rl_wj {M : Mem} {k j j' : Nat} {v : Int64} (h : j' ≠ j) : rl (wl M k j v) k j' = rl M k j' := by
  show (if k = k then vp_updL (M.2.1 k) j v else M.2.1 k) j' = M.2.1 k j'
  rw [if_pos rfl]; exact if_neg h
theorem rl_wr {M : Mem} {k j k' j' : Nat} {v : Int32} : rl (wr M k j v) k' j' = rl M k' j' := rfl
theorem rd_wl {M : Mem} {k j k' j' : Nat} {v : Int64} : rd (wl M k j v) k' j' = rd M k' j' := rfl
/-! what stays -/
def W1 (k j : Nat) : Prop := (k = 135 ∧ (j = 5 ∨ j = 21 ∨ j = 22)) ∨ (141 ≤ k ∧ k ≤ 144)
def Keep (M M' : Mem) : Prop := (∀ k j, ¬ W1 k j → rd M' k j = rd M k j) ∧ ∀ k j, rl M' k j = rl M k j
def gAll (M : Mem) : Gm := (fun k j => ((rd M k j).toInt, (rd M k j).toInt), fun k j v => v = rl M k j)
theorem OKm.all {g : Gm} {M : Mem} (h : OKm g M) : OKm (gAll M) M := by
  refine ⟨fun k j => h.std k j, fun k j => ?_, fun k j => rfl⟩
  have h2 := h.2.1 k j
  unfold bxm at h2 ⊢
  split
  · rename_i c; rw [if_pos c] at h2; exact h2
  · exact ⟨Int.le_refl _, Int.le_refl _⟩
theorem OKm.kept {M M' : Mem} (h : OKm (gAll M) M') : Keep M M' := by
  refine ⟨fun k j hw => ?_, fun k j => h.2.2 k j⟩
  have h2 := h.2.1 k j
  unfold bxm at h2
  have hw2 : ¬ ((k = 135 ∧ (j = 5 ∨ j = 21 ∨ j = 22)) ∨ (141 ≤ k ∧ k ≤ 144)) := hw
  rw [if_neg hw2] at h2
  have h3 : (rd M k j).toInt ≤ (rd M' k j).toInt ∧ (rd M' k j).toInt ≤ (rd M k j).toInt := h2
  exact i_eq.mpr (by omega)
theorem OKm.of_kept {g : Gm} {M M' : Mem} (h : OKm g M) (hk : Keep M M') : OKm g M' := by
  refine ⟨h.1, fun k j => ?_, fun k j => by rw [hk.2]; exact h.2.2 k j⟩
  have h2 := h.2.1 k j
  unfold bxm at h2 ⊢
  by_cases c : (k = 135 ∧ (j = 5 ∨ j = 21 ∨ j = 22)) ∨ (141 ≤ k ∧ k ≤ 144)
  · rw [if_pos c]; exact i_rng _
  · rw [if_neg c] at h2 ⊢
    rw [hk.1 k j c]; exact h2
theorem fr {ρ : Type} {g : Gm} {M : Mem} {x : Option (Mem × ρ)} {R : Mem × ρ → Prop} (h : OKm g M) (hx : ∀ g', OKm g' M → Sf x (fun q => OKm g' q.1 ∧ R q)) : Sf x (fun q => OKm g q.1 ∧ Keep M q.1 ∧ R q) := by
  obtain ⟨y, e, h1, h2⟩ := hx (gAll M) h.all
  exact ⟨y, e, h.of_kept h1.kept, h1.kept, h2⟩
/-! full, isBehind, reasonOf -/
section PL
variable {g : Gm} {M : Mem} {n m a c : Nat}
/-- how many bends, which are made -/
def NM (n m : Nat) (M : Mem) : Prop := rd M 136 0 = Int32.ofNat n ∧ n < 9 ∧ rd M 136 52 = Int32.ofNat m ∧ m < 2 ^ n
theorem NM.keep {M' : Mem} (h : NM n m M) (hk : Keep M M') : NM n m M' := by
  refine ⟨(hk.1 136 0 ?_).trans h.1, h.2.1, (hk.1 136 52 ?_).trans h.2.2.1, h.2.2.2⟩ <;> (unfold W1; omega)
theorem pl_full (h : NM n m M) : mX7_full 135 M = some (Int32.ofNat (2 ^ n - 1)) := by
  unfold mX7_full
  show chk (okb (0 : Int32) 86) (some (((1 : Int32) <<< ((rd M 136 0) &&& 31)) - (1 : Int32))) = _
  rw [h.1, f_full n h.2.1]
  rfl
theorem pl_behind (h : NM n m M) (ha : a < 256) : mX7_isBehind 135 (Int32.ofNat a) M = some (if a &&& m = m then 1 else 0) := by
  have hp := z_pow n h.2.1
  have hm := h.2.2.2
  unfold mX7_isBehind
  show chk (okb (52 : Int32) 86) (chk (okb (52 : Int32) 86) (ite2 ((Int32.ofNat a &&& rd M 136 52) = rd M 136 52) (some (1 : Int32)) (some (0 : Int32)))) = _
  rw [h.2.2.1, o_and ha (by omega)]
  show ite2 (Int32.ofNat (a &&& m) = Int32.ofNat m) (some (1 : Int32)) (some (0 : Int32)) = _
  have hle : a &&& m ≤ a := Nat.and_le_left
  unfold ite2
  by_cases e : a &&& m = m
  · rw [if_pos e, if_pos (congrArg Int32.ofNat e)]
  · rw [if_neg e, if_neg (fun q => e (o_inj (by omega) (by omega) q))]
theorem pl_reason (h : OKm g M) (ha : a < 256) (hc : c < 16) : Sf (mX7_reasonOf 135 (Int32.ofNat c / (2 : Int32)) (Int32.ofNat c - Int32.ofNat c / (2 : Int32) * (2 : Int32)) (Int32.ofNat a) M) (fun q => OKm g q.1 ∧ Keep M q.1 ∧ (q.2 = 0 → a.testBit (c / 2) = false)) := by
  rw [f_mod c hc, f_half c (by omega)]
  by_cases e : a.testBit (c / 2) = true
  · have e2 := (f_has a ha (c / 2) (by omega)).mpr e
    unfold mX7_reasonOf mX7_has ite2
    rw [if_pos e2]
    refine Sf.ok ⟨h, ⟨fun _ _ _ => rfl, fun _ _ => rfl⟩, fun q => absurd (show (1 : Int32) = 0 from q) (by decide)⟩
  · refine fr h (fun g' h' => Sf.mono (sX7_reasonOf h' (by rw [t_of (by omega)]; omega) (by rw [t_of (by omega)]; omega) (by rw [t_of (by omega)]; omega)) (fun q hq => ⟨hq.1, fun _ => ?_⟩))
    cases e3 : a.testBit (c / 2) with
    | false => rfl
    | true => exact absurd e3 e
end PL
