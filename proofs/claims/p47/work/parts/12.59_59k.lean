/-! part 59.pl1 -/
section
/-! the reference's plan: what its tables tell -/
def cntz (a : Nat) : Nat → Nat
  | 0 => 0
  | k + 1 => cntz a k + (if a.testBit k then 0 else 1)
theorem z_setb : (List.range 9).all (fun n => (List.range (2 ^ n)).all (fun a => (List.range n).all (fun k => a.testBit k || (decide (cntz (a ||| 2 ^ k) n + 1 = cntz a n) && decide (a < (a ||| 2 ^ k)) && decide ((a ||| 2 ^ k) < 2 ^ n) && (a ||| 2 ^ k).testBit k)))) = true := by decide +kernel
theorem z_set (n : Nat) (hn : n < 9) (a : Nat) (ha : a < 2 ^ n) (k : Nat) (hk : k < n) (h : a.testBit k = false) : cntz (a ||| 2 ^ k) n + 1 = cntz a n ∧ a < (a ||| 2 ^ k) ∧ (a ||| 2 ^ k) < 2 ^ n ∧ (a ||| 2 ^ k).testBit k = true := by
  have h1 := List.all_eq_true.mp z_setb n (List.mem_range.mpr hn)
  have h2 := List.all_eq_true.mp h1 a (List.mem_range.mpr ha)
  have h3 := List.all_eq_true.mp h2 k (List.mem_range.mpr hk)
  rw [h, Bool.false_or, Bool.and_eq_true, Bool.and_eq_true, Bool.and_eq_true] at h3
  exact ⟨of_decide_eq_true h3.1.1.1, of_decide_eq_true h3.1.1.2, of_decide_eq_true h3.1.2, h3.2⟩
theorem z_full : ∀ n, n < 9 → ∀ a, a < 2 ^ n → cntz a n ≤ 8 ∧ (cntz a n = 0 → a = 2 ^ n - 1) := by decide +kernel
theorem z_full2 : ∀ n, n < 9 → cntz (2 ^ n - 1) n = 0 ∧ ∀ k, k < n → (2 ^ n - 1).testBit k = true := by decide +kernel
theorem z_pow : ∀ n, n < 9 → 1 ≤ 2 ^ n ∧ 2 ^ n ≤ 256 := by decide
theorem z_sup {a m k : Nat} (h : a &&& m = m) : (a ||| 2 ^ k) &&& m = m := by
  apply Nat.eq_of_testBit_eq
  intro i
  have h2 := congrArg (fun x => x.testBit i) h
  simp only [Nat.testBit_and, Nat.testBit_or] at h2 ⊢
  cases h3 : m.testBit i <;> cases h4 : a.testBit i <;> simp_all
theorem f_or : ∀ a, a < 256 → ∀ k, k < 8 → (Int32.ofNat a ||| ((1 : Int32) <<< (Int32.ofNat k &&& 31))) = Int32.ofNat (a ||| 2 ^ k) := by decide +kernel
theorem f_half : ∀ c, c < 17 → Int32.ofNat c / (2 : Int32) = Int32.ofNat (c / 2) := by decide +kernel
theorem f_mod : ∀ c, c < 16 → (Int32.ofNat c - Int32.ofNat c / (2 : Int32) * (2 : Int32)) = Int32.ofNat (c % 2) := by decide +kernel
theorem f_has : ∀ a, a < 256 → ∀ k, k < 8 → ((((Int32.ofNat a >>> (Int32.ofNat k &&& 31)) &&& (1 : Int32)) = (1 : Int32)) ↔ a.testBit k = true) := by decide +kernel
theorem f_full : ∀ n, n < 9 → ((1 : Int32) <<< (Int32.ofNat n &&& 31)) - (1 : Int32) = Int32.ofNat (2 ^ n - 1) := by decide +kernel
theorem t_of {a : Nat} (h : a < 100000) : (Int32.ofNat a).toInt = (a : Int) := toInt_of rfl (by omega)
theorem c_of {a : Nat} (h : a < 100000) : (Int32.ofNat a).toNatClampNeg = a := by rw [i_clamp, t_of h]; rfl
theorem o_inj {a b : Nat} (ha : a < 100000) (hb : b < 100000) (h : Int32.ofNat a = Int32.ofNat b) : a = b := by
  have := congrArg Int32.toInt h
  rw [t_of ha, t_of hb] at this
  omega
theorem o_of {x : Int32} (h : 0 ≤ x.toInt) : x = Int32.ofNat x.toInt.toNat := i_nn (fun h => by have := i_lt.mp h; rw [Int32.toInt_zero] at this; omega)
theorem o_and {a m : Nat} (ha : a < 256) (hm : m < 256) : (Int32.ofNat a &&& Int32.ofNat m) = Int32.ofNat (a &&& m) := by
  rw [← Int32.toBitVec_inj]
  apply BitVec.eq_of_toNat_eq
  have e1 : (Int32.ofNat a).toBitVec.toNat = a := by
    have h1 := i_nn2 (x := Int32.ofNat a) (by rw [t_of (by omega)]; omega)
    rw [t_of (by omega)] at h1; omega
  have e2 : (Int32.ofNat m).toBitVec.toNat = m := by
    have h1 := i_nn2 (x := Int32.ofNat m) (by rw [t_of (by omega)]; omega)
    rw [t_of (by omega)] at h1; omega
  have h3 : a &&& m ≤ a := Nat.and_le_left
  have e3 : (Int32.ofNat (a &&& m)).toBitVec.toNat = a &&& m := by
    have h1 := i_nn2 (x := Int32.ofNat (a &&& m)) (by rw [t_of (by omega)]; omega)
    rw [t_of (by omega)] at h1; omega
  rw [e3]
  show ((Int32.ofNat a).toBitVec &&& (Int32.ofNat m).toBitVec).toNat = _
  rw [BitVec.toNat_and, e1, e2]
theorem ix16 {a c : Nat} (ha : a < 256) (hc : c < 16) : ((16 : Int32) * Int32.ofNat a + Int32.ofNat c).toInt = 16 * (a : Int) + c := by
  have e := i_mulc (a := (16 : Int32)) (b := Int32.ofNat a) (c := 16) rfl (by rw [t_of (by omega)]; omega) (by rw [t_of (by omega)]; omega)
  rw [i_add (by rw [e, t_of (by omega), t_of (by omega)]; omega) (by rw [e, t_of (by omega), t_of (by omega)]; omega), e, t_of (by omega), t_of (by omega)]
theorem ix17 {a c : Nat} (ha : a < 256) (hc : c < 17) : ((17 : Int32) * Int32.ofNat a + Int32.ofNat c).toInt = 17 * (a : Int) + c := by
  have e := i_mulc (a := (17 : Int32)) (b := Int32.ofNat a) (c := 17) rfl (by rw [t_of (by omega)]; omega) (by rw [t_of (by omega)]; omega)
  rw [i_add (by rw [e, t_of (by omega), t_of (by omega)]; omega) (by rw [e, t_of (by omega), t_of (by omega)]; omega), e, t_of (by omega), t_of (by omega)]
theorem ix16c {a c : Nat} (ha : a < 256) (hc : c < 16) : ((16 : Int32) * Int32.ofNat a + Int32.ofNat c).toNatClampNeg = 16 * a + c := by rw [i_clamp, ix16 ha hc]; omega
theorem ix17c {a c : Nat} (ha : a < 256) (hc : c < 17) : ((17 : Int32) * Int32.ofNat a + Int32.ofNat c).toNatClampNeg = 17 * a + c := by rw [i_clamp, ix17 ha hc]; omega
theorem l_add {x y : Int64} (hx : 0 ≤ x.toInt ∧ x.toInt ≤ 1099511627776) (hy : 0 ≤ y.toInt ∧ y.toInt ≤ 1099511627776) : (x + y).toInt = x.toInt + y.toInt := by
  rw [Int64.toInt_add]; exact Int.bmod_eq_of_le (by omega) (by omega)
theorem rl_we {M : Mem} {k j : Nat} {v : Int64} : rl (wl M k j v) k j = v := by
  show (if k = k then vp_updL (M.2.1 k) j v else M.2.1 k) j = v
  rw [if_pos rfl]; exact if_pos rfl
theorem rl_wj {M : Mem} {k j j' : Nat} {v : Int64} (h : j' ≠ j) : rl (wl M k j v) k j' = rl M k j' := by
  show (if k = k then vp_updL (M.2.1 k) j v else M.2.1 k) j' = M.2.1 k j'
  rw [if_pos rfl]; exact if_neg h
/-! what stays -/
def W1 (k j : Nat) : Prop := (k = 135 ∧ (j = 5 ∨ j = 21 ∨ j = 22)) ∨ (141 ≤ k ∧ k ≤ 144)
def Keep (M M' : Mem) : Prop := (∀ k j, ¬ W1 k j → rd M' k j = rd M k j) ∧ ∀ k j, rl M' k j = rl M k j
def gAll (M : Mem) : Gm := (fun k j => ((rd M k j).toInt, (rd M k j).toInt), fun k j v => v = rl M k j)
theorem OKm.all {g : Gm} {M : Mem} (h : OKm g M) : OKm (gAll M) M := by
  refine ⟨fun k j => h.std k j, fun k j => ?_, fun k j => rfl⟩
  have h2 := h.2.1 k j
  unfold bxm at h2 ⊢
  split
  · rename_i c; rw [if_pos c] at h2; exact h2
  · exact ⟨Int.le_refl _, Int.le_refl _⟩
theorem OKm.kept {M M' : Mem} (h : OKm (gAll M) M') : Keep M M' := by
  refine ⟨fun k j hw => ?_, fun k j => h.2.2 k j⟩
  have h2 := h.2.1 k j
  unfold bxm at h2
  have hw2 : ¬ ((k = 135 ∧ (j = 5 ∨ j = 21 ∨ j = 22)) ∨ (141 ≤ k ∧ k ≤ 144)) := hw
  rw [if_neg hw2] at h2
  have h3 : (rd M k j).toInt ≤ (rd M' k j).toInt ∧ (rd M' k j).toInt ≤ (rd M k j).toInt := h2
  exact i_eq.mpr (by omega)
theorem OKm.of_kept {g : Gm} {M M' : Mem} (h : OKm g M) (hk : Keep M M') : OKm g M' := by
  refine ⟨h.1, fun k j => ?_, fun k j => by rw [hk.2]; exact h.2.2 k j⟩
  have h2 := h.2.1 k j
  unfold bxm at h2 ⊢
  by_cases c : (k = 135 ∧ (j = 5 ∨ j = 21 ∨ j = 22)) ∨ (141 ≤ k ∧ k ≤ 144)
  · rw [if_pos c]; exact i_rng _
  · rw [if_neg c] at h2 ⊢
    rw [hk.1 k j c]; exact h2
theorem fr {ρ : Type} {g : Gm} {M : Mem} {x : Option (Mem × ρ)} {R : Mem × ρ → Prop} (h : OKm g M) (hx : ∀ g', OKm g' M → Sf x (fun q => OKm g' q.1 ∧ R q)) : Sf x (fun q => OKm g q.1 ∧ Keep M q.1 ∧ R q) := by
  obtain ⟨y, e, h1, h2⟩ := hx (gAll M) h.all
  exact ⟨y, e, h.of_kept h1.kept, h1.kept, h2⟩
/-! full, isBehind, reasonOf -/
section PL
variable {g : Gm} {M : Mem} {n m a c : Nat}
/-- how many bends, which are made -/
def NM (n m : Nat) (M : Mem) : Prop := rd M 136 0 = Int32.ofNat n ∧ n < 9 ∧ rd M 136 52 = Int32.ofNat m ∧ m < 2 ^ n
theorem NM.keep {M' : Mem} (h : NM n m M) (hk : Keep M M') : NM n m M' := by
  refine ⟨(hk.1 136 0 ?_).trans h.1, h.2.1, (hk.1 136 52 ?_).trans h.2.2.1, h.2.2.2⟩ <;> (unfold W1; omega)
theorem pl_full (h : NM n m M) : mX7_full 135 M = some (Int32.ofNat (2 ^ n - 1)) := by
  unfold mX7_full
  show chk (okb (0 : Int32) 86) (some (((1 : Int32) <<< ((rd M 136 0) &&& 31)) - (1 : Int32))) = _
  rw [h.1, f_full n h.2.1]
  rfl
theorem pl_behind (h : NM n m M) (ha : a < 256) : mX7_isBehind 135 (Int32.ofNat a) M = some (if a &&& m = m then 1 else 0) := by
  have hp := z_pow n h.2.1
  have hm := h.2.2.2
  unfold mX7_isBehind
  show chk (okb (52 : Int32) 86) (chk (okb (52 : Int32) 86) (ite2 ((Int32.ofNat a &&& rd M 136 52) = rd M 136 52) (some (1 : Int32)) (some (0 : Int32)))) = _
  rw [h.2.2.1, o_and ha (by omega)]
  show ite2 (Int32.ofNat (a &&& m) = Int32.ofNat m) (some (1 : Int32)) (some (0 : Int32)) = _
  have hle : a &&& m ≤ a := Nat.and_le_left
  unfold ite2
  by_cases e : a &&& m = m
  · rw [if_pos e, if_pos (congrArg Int32.ofNat e)]
  · rw [if_neg e, if_neg (fun q => e (o_inj (by omega) (by omega) q))]
theorem pl_reason (h : OKm g M) (ha : a < 256) (hc : c < 16) : Sf (mX7_reasonOf 135 (Int32.ofNat c / (2 : Int32)) (Int32.ofNat c - Int32.ofNat c / (2 : Int32) * (2 : Int32)) (Int32.ofNat a) M) (fun q => OKm g q.1 ∧ Keep M q.1 ∧ (q.2 = 0 → a.testBit (c / 2) = false)) := by
  rw [f_mod c hc, f_half c (by omega)]
  by_cases e : a.testBit (c / 2) = true
  · have e2 := (f_has a ha (c / 2) (by omega)).mpr e
    unfold mX7_reasonOf mX7_has ite2
    rw [if_pos e2]
    refine Sf.ok ⟨h, ⟨fun _ _ _ => rfl, fun _ _ => rfl⟩, fun q => absurd (show (1 : Int32) = 0 from q) (by decide)⟩
  · refine fr h (fun g' h' => Sf.mono (sX7_reasonOf h' (by rw [t_of (by omega)]; omega) (by rw [t_of (by omega)]; omega) (by rw [t_of (by omega)]; omega)) (fun q hq => ⟨hq.1, fun _ => ?_⟩))
    cases e3 : a.testBit (c / 2) with
    | false => rfl
    | true => exact absurd e3 e
end PL
end
/-! part 59b.pl2 -/
section
/-! layOrders: how many orders there are behind each set -/
theorem w_le : ∀ k, k < 9 → 1 ≤ (16 : Int) ^ k ∧ (16 : Int) ^ k ≤ 4294967296 := by decide
theorem w_succ (k : Nat) : (16 : Int) ^ (k + 1) = 16 * 16 ^ k := by rw [Int.pow_succ, Int.mul_comm]
def mn (M : Mem) (b : Nat) : Int := (rl M 147 b).toInt
def Gd (n : Nat) (M : Mem) (b : Nat) : Prop := 0 ≤ mn M b ∧ mn M b ≤ 16 ^ cntz b n ∧ (∀ c, c < 2 * n → ¬ rd M 145 (16 * b + c) = 0 → b.testBit (c / 2) = false) ∧ (0 < mn M b ↔ b = 2 ^ n - 1 ∨ ∃ c, c < 2 * n ∧ ¬ rd M 145 (16 * b + c) = 0 ∧ 0 < mn M (b ||| 2 ^ (c / 2)))
def Pa (n : Nat) (M : Mem) (a c : Nat) : Prop := 0 ≤ mn M a ∧ mn M a ≤ (if a = 2 ^ n - 1 then 1 else (c : Int) * 16 ^ (cntz a n - 1)) ∧ (∀ c', c' < c → ¬ rd M 145 (16 * a + c') = 0 → a.testBit (c' / 2) = false) ∧ (0 < mn M a ↔ a = 2 ^ n - 1 ∨ ∃ c', c' < c ∧ ¬ rd M 145 (16 * a + c') = 0 ∧ 0 < mn M (a ||| 2 ^ (c' / 2)))
def Al (n m : Nat) (M : Mem) (a : Nat) : Prop := ∀ b, a ≤ b → b < 2 ^ n → b &&& m = m → Gd n M b
section PO
variable {g : Gm} {M M' : Mem} {n m a b c : Nat}
theorem Gd.of (h : Gd n M b) (h1 : ∀ c, c < 2 * n → rd M' 145 (16 * b + c) = rd M 145 (16 * b + c)) (h2 : ∀ b', b ≤ b' → rl M' 147 b' = rl M 147 b') : Gd n M' b := by
  have e : ∀ b', b ≤ b' → mn M' b' = mn M b' := fun b' hb => by unfold mn; rw [h2 b' hb]
  refine ⟨by rw [e b (Nat.le_refl _)]; exact h.1, by rw [e b (Nat.le_refl _)]; exact h.2.1, fun c hc q => h.2.2.1 c hc (by rwa [h1 c hc] at q), ?_⟩
  rw [e b (Nat.le_refl _)]
  constructor
  · intro h0
    rcases h.2.2.2.mp h0 with q | ⟨c, hc, q1, q2⟩
    · exact Or.inl q
    · exact Or.inr ⟨c, hc, by rwa [h1 c hc], by rwa [e _ Nat.left_le_or]⟩
  · intro h0
    refine h.2.2.2.mpr (h0.imp id ?_)
    rintro ⟨c, hc, q1, q2⟩
    exact ⟨c, hc, by rwa [h1 c hc] at q1, by rwa [e _ Nat.left_le_or] at q2⟩
theorem okm_l2 {k j : Nat} {v : Int64} (h : OKm (w2 g) M) : OKm (w2 g) (wl M k j v) := ⟨h.1, h.2.1, fun _ _ => trivial⟩
theorem okm_c2 {j : Nat} {v : Int32} (h : OKm (w2 g) M) (hv : 0 ≤ v.toInt ∧ v.toInt ≤ 1) : OKm (w2 g) (wr M 145 j v) := h.put (b := (0, 1)) rfl hv
theorem Pa.good (h : Pa n M a (2 * n)) (ha : a < 2 ^ n) (hn : n < 9) : Gd n M a := by
  refine ⟨h.1, ?_, h.2.2.1, h.2.2.2⟩
  have h2 := h.2.1
  have hz := z_full n hn a ha
  split at h2
  · have := (w_le (cntz a n) (by omega)).1
    omega
  · rename_i hf
    have hz1 : cntz a n ≠ 0 := fun e => hf (hz.2 e)
    obtain ⟨z, ez⟩ : ∃ z, cntz a n = z + 1 := ⟨cntz a n - 1, by omega⟩
    rw [ez] at h2 ⊢
    rw [w_succ]
    have hw := (w_le z (by omega)).1
    rw [Nat.add_sub_cancel] at h2
    have h3 : ((2 * n : Nat) : Int) * 16 ^ z ≤ 16 * 16 ^ z := Int.mul_le_mul_of_nonneg_right (by omega) (by omega)
    omega
/-- a code's step -/
theorem pa_step {y : Int32} {s : Int} (ha : a < 2 ^ n) (hn : n < 9) (hc : c < 2 * n) (hbm : a &&& m = m) (hA : Al n m M (a + 1)) (hP : Pa n M a c) (hy : y = 0 ∧ s = 0 ∨ y = 1 ∧ s = mn M (a ||| 2 ^ (c / 2)) ∧ a.testBit (c / 2) = false)
    (e1 : ∀ j, j ≠ 16 * a + c → rd M' 145 j = rd M 145 j) (e2 : rd M' 145 (16 * a + c) = y) (e3 : ∀ b, b ≠ a → rl M' 147 b = rl M 147 b) (e4 : mn M' a = mn M a + s) : Pa n M' a (c + 1) ∧ Al n m M' (a + 1) := by
  have hA' : Al n m M' (a + 1) := fun b hb hb2 hb3 => (hA b hb hb2 hb3).of (fun c' hc' => e1 _ (by omega)) (fun b' hb' => e3 b' (by omega))
  refine ⟨?_, hA'⟩
  have em : ∀ b, b ≠ a → mn M' b = mn M b := fun b hb => by unfold mn; rw [e3 b hb]
  obtain ⟨p1, p2, p3, p4⟩ := hP
  -- what a step leads to
  have st : a.testBit (c / 2) = false → (a ||| 2 ^ (c / 2)) ≠ a ∧ 0 ≤ mn M (a ||| 2 ^ (c / 2)) ∧ mn M (a ||| 2 ^ (c / 2)) ≤ 16 ^ (cntz a n - 1) ∧ a ≠ 2 ^ n - 1 := by
    intro h
    have h1 := z_set n hn a ha (c / 2) (by omega) h
    have h2 := hA (a ||| 2 ^ (c / 2)) (by omega) h1.2.2.1 (z_sup hbm)
    refine ⟨by omega, h2.1, ?_, fun e => ?_⟩
    · have h3 := h2.2.1
      rw [show cntz (a ||| 2 ^ (c / 2)) n = cntz a n - 1 by omega] at h3
      exact h3
    · rw [e, (z_full2 n hn).2 (c / 2) (by omega)] at h; cases h
  have hs : 0 ≤ s := by
    rcases hy with ⟨_, hs⟩ | ⟨_, hs, ht⟩
    · omega
    · have := (st ht).2.1; omega
  have st' : ∀ c', c' < 2 * n → a.testBit (c' / 2) = false → (a ||| 2 ^ (c' / 2)) ≠ a := by
    intro c' hc' h
    have h1 := z_set n hn a ha (c' / 2) (by omega) h
    omega
  have old : ∀ c', c' < c → rd M' 145 (16 * a + c') = rd M 145 (16 * a + c') := fun c' h => e1 _ (by omega)
  refine ⟨by omega, ?_, fun c' hc' q => ?_, ?_⟩
  · rw [e4]
    split
    · rename_i hf
      rw [if_pos hf] at p2
      rcases hy with ⟨_, hs0⟩ | ⟨_, _, ht⟩
      · omega
      · exact absurd hf (st ht).2.2.2
    · rename_i hf
      rw [if_neg hf] at p2
      have hw : (((c + 1 : Nat) : Int)) * 16 ^ (cntz a n - 1) = (c : Int) * 16 ^ (cntz a n - 1) + 16 ^ (cntz a n - 1) := by
        rw [Int.natCast_add, Int.add_mul, show (((1 : Nat)) : Int) = 1 from rfl, Int.one_mul]
      have hz := z_full n hn a ha
      have hw1 := (w_le (cntz a n - 1) (by omega)).1
      rw [hw]
      rcases hy with ⟨_, hs0⟩ | ⟨_, hs1, ht⟩
      · omega
      · have := (st ht).2.2.1
        omega
  · by_cases e : c' = c
    · subst e
      rw [e2] at q
      rcases hy with ⟨y0, _⟩ | ⟨_, _, ht⟩
      · exact absurd y0 q
      · exact ht
    · rw [old c' (by omega)] at q
      exact p3 c' (by omega) q
  · rw [e4]
    constructor
    · intro h0
      by_cases h1 : 0 < mn M a
      · rcases p4.mp h1 with q | ⟨c', hc', q1, q2⟩
        · exact Or.inl q
        · exact Or.inr ⟨c', by omega, by rwa [old c' hc'], by rwa [em _ (st' c' (by omega) (p3 c' hc' q1))]⟩
      · rcases hy with ⟨_, hs0⟩ | ⟨y1, hs1, ht⟩
        · omega
        · refine Or.inr ⟨c, by omega, by rw [e2, y1]; decide, ?_⟩
          rw [em _ (st ht).1]; omega
    · intro h0
      rcases h0 with q | ⟨c', hc', q1, q2⟩
      · have := p4.mpr (Or.inl q)
        omega
      · by_cases e : c' = c
        · subst e
          rw [e2] at q1
          rcases hy with ⟨y0, _⟩ | ⟨_, hs1, ht⟩
          · exact absurd y0 q1
          · rw [em _ (st ht).1] at q2
            omega
        · rw [old c' (by omega)] at q1
          rw [em _ (st' c' (by omega) (p3 c' (by omega) q1))] at q2
          have := p4.mpr (Or.inr ⟨c', by omega, q1, q2⟩)
          omega
end PO
section PQ
variable {g : Gm} {n m a : Nat} {P : Mem × Unit → Prop} {ih5 : Int32 → Mem → Option (Mem × Unit)}
theorem pl_in (ha : a < 2 ^ n) (H5 : ∀ M, OKm (w2 g) M → NM n m M → Al n m M a → Sf (ih5 (Int32.ofNat a + (-1 : Int32)) M) P) : ∀ (fuel c : Nat) (M : Mem), OKm (w2 g) M → NM n m M → Al n m M (a + 1) → (a &&& m = m → Pa n M a c) → c ≤ 2 * n → 2 * n - c < fuel → Sf (mX7_layOrders_l30 135 ih5 fuel (Int32.ofNat a) (Int32.ofNat c) M) P := by
  intro fuel
  induction fuel with
  | zero => intro c M _ _ _ _ _ h; exfalso; omega
  | succ fuel IH =>
    intro c M hM hN hA hP hc hf
    have hn := hN.2.1
    have hp := z_pow n hn
    have fin : (a &&& m = m → Gd n M a) → Sf (mX7_layOrders_b117 135 ih5 (Int32.ofNat a) M) P := by
      intro hG
      unfold mX7_layOrders_b117
      refine Sf.b (fun x ex => ?_)
      rw [ex]
      refine H5 M hM hN (fun b hb hb2 hb3 => ?_)
      by_cases e : b = a
      · subst e; exact hG hb3
      · exact hA b (by omega) hb2 hb3
    show Sf (mX7_layOrders_b30 135 ih5 (mX7_layOrders_l30 135 ih5 fuel) (Int32.ofNat a) (Int32.ofNat c) M) P
    unfold mX7_layOrders_b30
    have hN2 : ((2 : Int32) * (rd M (135 + 1) ((0 : Int32)).toNatClampNeg)).toInt = 2 * (n : Int) := by
      show ((2 : Int32) * rd M 136 0).toInt = _
      rw [hN.1, i_mulc (a := (2 : Int32)) (c := 2) rfl (by rw [t_of (by omega)]; omega) (by rw [t_of (by omega)]; omega), t_of (by omega)]
    refine Sf.k (by decide) (Sf.i (fun cc => fin (fun hb => ?_)) (fun cc => ?_))
    · have cc := i_le.mp cc
      rw [hN2, t_of (by omega)] at cc
      have : c = 2 * n := by omega
      subst this
      exact (hP hb).good ha hn
    · have cc := i_nle cc
      rw [hN2, t_of (by omega)] at cc
      have hc2 : c < 2 * n := by omega
      rw [pl_behind hN (a := a) (by omega)]
      refine Sf.c (Q := fun r => r = if a &&& m = m then 1 else 0) ⟨_, rfl, rfl⟩ (fun r er => ?_)
      by_cases hb : a &&& m = m
      · rw [if_pos hb] at er
        subst er
        refine Sf.i (fun q => absurd q (by decide)) (fun _ => ?_)
        refine Sf.m (pl_reason hM (a := a) (c := c) (by omega) (by omega)) (fun M21 r20 p => ?_)
        have h21 : OKm (w2 g) M21 := p.1
        have k21 : Keep M M21 := p.2.1
        have nt : ∀ k, k = 145 ∨ k = 136 → ∀ j, rd M21 k j = rd M k j := fun k hk j => k21.1 k j (by unfold W1; omega)
        have N21 : NM n m M21 := hN.keep k21
        -- the tables as they were
        have hA21 : Al n m M21 (a + 1) := fun b hb hb2 hb3 => (hA b hb hb2 hb3).of (fun c' _ => nt 145 (Or.inl rfl) _) (fun b' _ => k21.2 147 b')
        have hP21 : Pa n M21 a c := by
          have em : ∀ b, mn M21 b = mn M b := fun b => by unfold mn; rw [k21.2]
          obtain ⟨p1, p2, p3, p4⟩ := hP hb
          refine ⟨by rw [em]; exact p1, by rw [em]; exact p2, fun c' h q => p3 c' h (by rwa [nt 145 (Or.inl rfl)] at q), ?_⟩
          rw [em]
          constructor
          · intro h0
            refine (p4.mp h0).imp id ?_
            rintro ⟨c', h, q1, q2⟩
            exact ⟨c', h, by rwa [nt 145 (Or.inl rfl)], by rwa [em]⟩
          · intro h0
            refine p4.mpr (h0.imp id ?_)
            rintro ⟨c', h, q1, q2⟩
            exact ⟨c', h, by rwa [nt 145 (Or.inl rfl)] at q1, by rwa [em] at q2⟩
        have i1 : okb ((16 : Int32) * Int32.ofNat a + Int32.ofNat c) 4096 = true := ok_in (by rw [ix16 (by omega) (by omega)]; omega) (by rw [ix16 (by omega) (by omega)]; omega)
        have i2 : okb (Int32.ofNat a) 256 = true := ok_in (by rw [t_of (by omega)]; omega) (by rw [t_of (by omega)]; omega)
        have ca : (Int32.ofNat a).toNatClampNeg = a := c_of (by omega)
        have next : ∀ (M30 : Mem), OKm (w2 g) M30 → NM n m M30 → Al n m M30 (a + 1) → Pa n M30 a (c + 1) → Sf (bnd (Int32.ofNat c + (1 : Int32)) (fun x2_111 => mX7_layOrders_l30 135 ih5 fuel (Int32.ofNat a) x2_111 M30)) P := by
          intro M30 h30 N30 A30 P30
          refine Sf.b (fun x ex => ?_)
          have e : x = Int32.ofNat (c + 1) := by rw [ex]; exact (Int32.ofNat_add c 1).symm
          rw [e]
          exact IH (c + 1) M30 h30 N30 A30 (fun _ => P30) (by omega) (by omega)
        refine Sf.i (fun q => ?_) (fun _ => ?_)
        · have ht := p.2.2 q
          have hst := z_set n hn a ha (c / 2) (by omega) ht
          unfold mX7_layOrders_b69
          refine Sf.k i1 (Sf.b (fun M25 e25 => Sf.k i2 (Sf.i (fun q => absurd q (by decide)) (fun _ => ?_))))
          rw [show vp_nar .boolean (1 : Int32) = 1 from by decide, ix16c (by omega) (by omega)] at e25
          rw [f_half c (by omega), f_or a (by omega) (c / 2) (by omega), c_of (a := a ||| 2 ^ (c / 2)) (by omega), ca]
          refine Sf.k (ok_in (by rw [t_of (by omega)]; omega) (by rw [t_of (by omega)]; omega)) ?_
          unfold mX7_layOrders_b109
          rw [ca]
          refine Sf.k i2 (Sf.b (fun M30 e30 => ?_))
          have h25 : OKm (w2 g) M25 := by rw [e25]; exact okm_c2 h21 (by decide)
          have r25 : ∀ b, rl M25 147 b = rl M21 147 b := fun b => by rw [e25]; rfl
          have G := hA21 (a ||| 2 ^ (c / 2)) (by omega) hst.2.2.1 (z_sup hb)
          have hz := z_full n hn a ha
          have b1 := (w_le (cntz (a ||| 2 ^ (c / 2)) n) (by omega)).2
          have hle : mn M21 a ≤ 1099511627776 := by
            have h2 := hP21.2.1
            split at h2
            · omega
            · have b2 := w_le (cntz a n - 1) (by omega)
              have h3 : (c : Int) * 16 ^ (cntz a n - 1) ≤ 16 * 16 ^ (cntz a n - 1) := Int.mul_le_mul_of_nonneg_right (by omega) (by omega)
              omega
          have r30 : ∀ k j, rd M30 k j = rd M25 k j := fun k j => by rw [e30]; rfl
          have q30 : ∀ j, rd M30 136 j = rd M21 136 j := fun j => by rw [r30, e25]; exact rd_wk (by decide)
          have s1 := pa_step (M := M21) (M' := M30) (y := 1) (s := mn M21 (a ||| 2 ^ (c / 2))) ha hn hc2 hb hA21 hP21 (Or.inr ⟨rfl, rfl, ht⟩)
            (fun j hj => by rw [r30, e25]; exact rd_wj hj) (by rw [r30, e25]; exact rd_we) (fun b hb => by rw [e30, e25]; exact rl_wj hb)
            (by
              have ee : rl M30 147 a = rl M21 147 a + rl M21 147 (a ||| 2 ^ (c / 2)) := by rw [e30, r25, r25]; exact rl_we
              unfold mn
              rw [ee]
              exact l_add ⟨hP21.1, hle⟩ ⟨G.1, by have := G.2.1; unfold mn at this; omega⟩)
          exact next M30 (by rw [e30]; exact okm_l2 h25) ⟨(q30 0).trans N21.1, hn, (q30 52).trans N21.2.2.1, N21.2.2.2⟩ s1.2 s1.1
        · unfold mX7_layOrders_b69
          refine Sf.k i1 (Sf.b (fun M25 e25 => Sf.k i2 (Sf.i (fun _ => ?_) (fun q => absurd rfl q))))
          rw [show vp_nar .boolean (0 : Int32) = 0 from by decide, ix16c (by omega) (by omega)] at e25
          unfold mX7_layOrders_b109
          rw [ca]
          refine Sf.k i2 (Sf.b (fun M30 e30 => ?_))
          have h25 : OKm (w2 g) M25 := by rw [e25]; exact okm_c2 h21 (by decide)
          have r30 : ∀ k j, rd M30 k j = rd M25 k j := fun k j => by rw [e30]; rfl
          have q30 : ∀ j, rd M30 136 j = rd M21 136 j := fun j => by rw [r30, e25]; exact rd_wk (by decide)
          have s1 := pa_step (M := M21) (M' := M30) (y := 0) (s := 0) ha hn hc2 hb hA21 hP21 (Or.inl ⟨rfl, rfl⟩)
            (fun j hj => by rw [r30, e25]; exact rd_wj hj) (by rw [r30, e25]; exact rd_we) (fun b hb => by rw [e30, e25]; exact rl_wj hb)
            (by
              have ee : rl M30 147 a = rl M21 147 a + 0 := by rw [e30, e25]; exact rl_we
              unfold mn
              rw [ee, Int64.add_zero]
              omega)
          exact next M30 (by rw [e30]; exact okm_l2 h25) ⟨(q30 0).trans N21.1, hn, (q30 52).trans N21.2.2.1, N21.2.2.2⟩ s1.2 s1.1
      · rw [if_neg hb] at er
        subst er
        exact Sf.i (fun _ => fin (fun q => absurd q hb)) (fun q => absurd rfl q)
end PQ
section PR
variable {g : Gm} {n m : Nat}
theorem pl_out : ∀ (fuel a : Nat) (x : Int32) (M : Mem), x.toInt = (a : Int) - 1 → a ≤ 2 ^ n → OKm (w2 g) M → NM n m M → Al n m M a → a < fuel → Sf (mX7_layOrders_l5 135 fuel x M) (fun q => OKm (w2 g) q.1 ∧ NM n m q.1 ∧ Al n m q.1 0) := by
  intro fuel
  induction fuel with
  | zero => intro a x M _ _ _ _ _ h; exfalso; omega
  | succ fuel IH =>
    intro a x M hx ha hM hN hA hf
    have hn := hN.2.1
    have hp := z_pow n hn
    show Sf (mX7_layOrders_b5 135 (mX7_layOrders_l5 135 fuel) x M) _
    unfold mX7_layOrders_b5
    refine Sf.i (fun c => ?_) (fun c => ?_)
    · have c := i_lt.mp c
      rw [show ((0 : Int32)).toInt = 0 from rfl] at c
      have : a = 0 := by omega
      subst this
      exact Sf.ok ⟨hM, hN, hA⟩
    · have c := i_nlt c
      rw [show ((0 : Int32)).toInt = 0 from rfl] at c
      obtain ⟨b, rfl⟩ : ∃ b, a = b + 1 := ⟨a - 1, by omega⟩
      have ex : x = Int32.ofNat b := by
        have := o_of (x := x) (by omega)
        rw [this]; congr 1; omega
      subst ex
      rw [pl_full hN]
      refine Sf.c (Q := fun r => r = Int32.ofNat (2 ^ n - 1)) ⟨_, rfl, rfl⟩ (fun r er => ?_)
      subst er
      have cb : (Int32.ofNat b).toNatClampNeg = b := c_of (by omega)
      have go : ∀ v : Int64, (b = 2 ^ n - 1 ∧ v = 1 ∨ b ≠ 2 ^ n - 1 ∧ v = 0) → Sf (mX7_layOrders_b27 135 (mX7_layOrders_l5 135 fuel) (Int32.ofNat b) (Int32.ofNat b) v M) (fun q => OKm (w2 g) q.1 ∧ NM n m q.1 ∧ Al n m q.1 0) := by
        intro v hv
        unfold mX7_layOrders_b27
        rw [cb]
        refine Sf.k (ok_in (by rw [t_of (by omega)]; omega) (by rw [t_of (by omega)]; omega)) (Sf.b (fun M11 e11 => ?_))
        have h11 : OKm (w2 g) M11 := by rw [e11]; exact okm_l2 hM
        have N11 : NM n m M11 := by rw [e11]; exact hN
        have A11 : Al n m M11 (b + 1) := fun d hd hd2 hd3 => (hA d hd hd2 hd3).of (fun c' _ => by rw [e11]; rfl) (fun b' hb' => by rw [e11]; exact rl_wj (by omega))
        have v11 : mn M11 b = v.toInt := by unfold mn; rw [e11, rl_we]
        refine pl_in (n := n) (m := m) (by omega) (fun M' h' N' A' => ?_) 5000 0 M11 h11 N11 A11 (fun _ => ?_) (by omega) (by omega)
        · refine IH b (Int32.ofNat b + (-1 : Int32)) M' ?_ (by omega) h' N' A' (by omega)
          rw [i_add (by rw [t_of (by omega), show ((-1 : Int32)).toInt = -1 from rfl]; omega) (by rw [t_of (by omega), show ((-1 : Int32)).toInt = -1 from rfl]; omega), t_of (by omega)]
          rfl
        · have vi : v.toInt = if b = 2 ^ n - 1 then 1 else 0 := by
            rcases hv with ⟨h1, h2⟩ | ⟨h1, h2⟩
            · rw [if_pos h1, h2]; rfl
            · rw [if_neg h1, h2]; rfl
          unfold Pa
          rw [v11, vi]
          refine ⟨by split <;> omega, ?_, fun c' h => absurd h (by omega), ?_⟩
          · split
            · omega
            · simp
          · constructor
            · intro h0
              split at h0
              · rename_i e; exact Or.inl e
              · omega
            · intro h0
              rcases h0 with e | ⟨c', h, _⟩
              · rw [if_pos e]; omega
              · omega
      refine Sf.i (fun e => go 1 (Or.inl ⟨o_inj (by omega) (by omega) e, rfl⟩)) (fun e => go 0 (Or.inr ⟨fun q => e (congrArg Int32.ofNat q), rfl⟩))
theorem sX7_layOrders' {M : Mem} (h : OKm g M) (hN : NM n m M) : Sf (mX7_layOrders 135 M) (fun q => OKm (w2 g) q.1 ∧ NM n m q.1 ∧ Al n m q.1 0) := by
  have hp := z_pow n hN.2.1
  unfold mX7_layOrders
  rw [pl_full hN]
  refine Sf.c (Q := fun r => r = Int32.ofNat (2 ^ n - 1)) ⟨_, rfl, rfl⟩ (fun r er => ?_)
  subst er
  exact pl_out 5000 (2 ^ n) _ M (by rw [t_of (by omega)]; omega) (by omega) h.w2 hN (fun b h1 h2 => by omega) (by omega)
end PR
end
/-! part 59c.pl3 -/
section
/-! layCosts: the least costs from each set on -/
def cstO (M : Mem) (x1 x2 x5 : Int32) : Option Int32 := ite2 (x2 = (16 : Int32)) (some (0 : Int32)) (cap (mX7_gaugeLast 135 x1 x2 M) (fun r22 => mX7_costBehind 135 (x2 / (2 : Int32)) (x2 - x2 / (2 : Int32) * (2 : Int32)) r22 (x5 / (2 : Int32)) (x5 - x5 / (2 : Int32) * (2 : Int32)) (rd M (135 + 11) ((((16 : Int32) * x1) + x5)).toNatClampNeg) M))
def Ldv (n : Nat) (M : Mem) (b l : Nat) (L : Int32) : Prop := (0 < mn M b → (0 ≤ L.toInt ∧ L.toInt ≤ 297 * (cntz b n : Int)) ∧ (b ≠ 2 ^ n - 1 → ∃ c, c < 2 * n ∧ ¬ rd M 145 (16 * b + c) = 0 ∧ 0 < mn M (b ||| 2 ^ (c / 2)) ∧ ∃ v, cstO M (Int32.ofNat b) (Int32.ofNat l) (Int32.ofNat c) = some v ∧ v.toInt + (rd M 148 (17 * (b ||| 2 ^ (c / 2)) + c)).toInt = L.toInt)) ∧ (¬ 0 < mn M b → L.toInt = 1000000)
/-- a last step that a set may have -/
def VL (n b l : Nat) : Prop := l = 16 ∨ (l < 2 * n ∧ b.testBit (l / 2) = true)
def Ald (n m : Nat) (M : Mem) (a : Nat) : Prop := ∀ b, a ≤ b → b < 2 ^ n → b &&& m = m → ∀ l, VL n b l → Ldv n M b l (rd M 148 (17 * b + l))
section PC
variable {g : Gm} {M M' : Mem} {n m a b c l : Nat}
theorem cst_same (h1 : ∀ j, rd M' (135 + 1) j = rd M (135 + 1) j) (h2 : ∀ j, rd M' (135 + 11) j = rd M (135 + 11) j) (x1 x2 x5 : Int32) : cstO M' x1 x2 x5 = cstO M x1 x2 x5 := by
  unfold cstO mX7_gaugeLast mX7_costBehind mX7_costBehind_b37 mX7_costBehind_b55
  simp only [h1, h2]
theorem cst_ok (h : OKm g M) (ha : a < 256) (hl : l ≤ 16) (hc : c < 16) : Sf (cstO M (Int32.ofNat a) (Int32.ofNat l) (Int32.ofNat c)) (pI 0 297) := by
  unfold cstO
  refine Sf.i (fun _ => Sf.ok (by decide)) (fun e => ?_)
  have hl2 : l < 16 := by
    rcases Nat.lt_or_ge l 16 with q | q
    · exact q
    · exact absurd (by rw [show l = 16 by omega]; rfl) e
  refine Sf.c (sX7_gaugeLast h (by rw [t_of (by omega)]; omega) (by rw [t_of (by omega)]; omega)) (fun r22 _ => ?_)
  rw [f_mod l hl2, f_half l (by omega), f_mod c hc, f_half c (by omega)]
  exact sX7_costBehind h (by rw [t_of (by omega)]; omega) (by rw [t_of (by omega)]; omega) (by rw [t_of (by omega)]; omega) (by rw [t_of (by omega)]; omega)
theorem Ldv.of {L : Int32} (h : Ldv n M b l L) (G : Gd n M b) (hb : b < 2 ^ n) (hn : n < 9) (e1 : ∀ j, rd M' 145 j = rd M 145 j) (e2 : ∀ j, rl M' 147 j = rl M 147 j) (e3 : ∀ x y z, cstO M' x y z = cstO M x y z) (e4 : ∀ b' c', b < b' → c' < 16 → rd M' 148 (17 * b' + c') = rd M 148 (17 * b' + c')) : Ldv n M' b l L := by
  have em : ∀ x, mn M' x = mn M x := fun x => by unfold mn; rw [e2]
  unfold Ldv
  rw [em]
  refine ⟨fun h0 => ⟨(h.1 h0).1, fun hf => ?_⟩, h.2⟩
  obtain ⟨c, hc, q1, q2, v, q3, q4⟩ := (h.1 h0).2 hf
  have hz := z_set n hn b hb (c / 2) (by omega) (G.2.2.1 c hc q1)
  exact ⟨c, hc, by rwa [e1], by rwa [em], v, by rwa [e3], by rw [e4 _ _ hz.2.1 (by omega)]; exact q4⟩
/-- what the loop over the codes has found -/
def Lc (n : Nat) (M : Mem) (a l c : Nat) (x : Int32) : Prop := (a = 2 ^ n - 1 → x.toInt = 0) ∧ (a ≠ 2 ^ n - 1 → ((∀ c', c' < c → ¬ rd M 145 (16 * a + c') = 0 → ¬ 0 < mn M (a ||| 2 ^ (c' / 2))) ∧ x.toInt = 1000000) ∨ ((∃ c', c' < c ∧ ¬ rd M 145 (16 * a + c') = 0 ∧ 0 < mn M (a ||| 2 ^ (c' / 2)) ∧ ∃ v, cstO M (Int32.ofNat a) (Int32.ofNat l) (Int32.ofNat c') = some v ∧ v.toInt + (rd M 148 (17 * (a ||| 2 ^ (c' / 2)) + c')).toInt = x.toInt) ∧ 0 ≤ x.toInt ∧ x.toInt ≤ 297 * (cntz a n : Int)))
theorem Lc.fin {x : Int32} (h : Lc n M a l (2 * n) x) (G : Gd n M a) (ha : a < 2 ^ n) (hn : n < 9) : Ldv n M a l x := by
  refine ⟨fun h0 => ?_, fun h0 => ?_⟩
  · by_cases e : a = 2 ^ n - 1
    · refine ⟨?_, fun q => absurd e q⟩
      rw [h.1 e]; omega
    · rcases h.2 e with ⟨h1, _⟩ | ⟨h1, h2⟩
      · rcases G.2.2.2.mp h0 with q | ⟨c, hc, q1, q2⟩
        · exact absurd q e
        · exact absurd q2 (h1 c hc q1)
      · exact ⟨h2, fun _ => h1⟩
  · by_cases e : a = 2 ^ n - 1
    · exact absurd (G.2.2.2.mpr (Or.inl e)) h0
    · rcases h.2 e with ⟨_, h2⟩ | ⟨⟨c, hc, q1, q2, _⟩, _⟩
      · exact h2
      · exact absurd (G.2.2.2.mpr (Or.inr ⟨c, hc, q1, q2⟩)) h0
theorem Lc.skip {x : Int32} (h : Lc n M a l c x) (hc : rd M 145 (16 * a + c) = 0) : Lc n M a l (c + 1) x := by
  refine ⟨h.1, fun e => (h.2 e).imp ?_ ?_⟩
  · rintro ⟨h1, h2⟩
    refine ⟨fun c' hc' q => ?_, h2⟩
    by_cases e2 : c' = c
    · subst e2; exact absurd hc q
    · exact h1 c' (by omega) q
  · rintro ⟨⟨c', hc', q⟩, h2⟩
    exact ⟨⟨c', by omega, q⟩, h2⟩
theorem Lc.step {x y v : Int32} (h : Lc n M a l c x) (hc : c < 2 * n) (hq : ¬ rd M 145 (16 * a + c) = 0) (ha : a < 2 ^ n) (hn : n < 9) (hb : a &&& m = m) (G : Gd n M a) (hA : Ald n m M (a + 1)) (hv : cstO M (Int32.ofNat a) (Int32.ofNat l) (Int32.ofNat c) = some v) (hv2 : 0 ≤ v.toInt ∧ v.toInt ≤ 297) (hy : y = imin x (v + rd M 148 (17 * (a ||| 2 ^ (c / 2)) + c))) : Lc n M a l (c + 1) y := by
  have ht := G.2.2.1 c hc hq
  have hz := z_set n hn a ha (c / 2) (by omega) ht
  have hz8 := (z_full n hn a ha).1
  have hf : a ≠ 2 ^ n - 1 := fun e => by rw [e, (z_full2 n hn).2 (c / 2) (by omega)] at ht; cases ht
  have hL := hA (a ||| 2 ^ (c / 2)) (by omega) hz.2.2.1 (z_sup hb) c (Or.inr ⟨hc, hz.2.2.2⟩)
  have hr : 0 ≤ (rd M 148 (17 * (a ||| 2 ^ (c / 2)) + c)).toInt ∧ (rd M 148 (17 * (a ||| 2 ^ (c / 2)) + c)).toInt ≤ 1000000 := by
    by_cases h0 : 0 < mn M (a ||| 2 ^ (c / 2))
    · have := (hL.1 h0).1; omega
    · have := hL.2 h0; omega
  have es := i_add (a := v) (b := rd M 148 (17 * (a ||| 2 ^ (c / 2)) + c)) (by omega) (by omega)
  have ey : y.toInt = min x.toInt (v.toInt + (rd M 148 (17 * (a ||| 2 ^ (c / 2)) + c)).toInt) := by rw [hy, i_min, es]
  refine ⟨fun e => absurd e hf, fun _ => ?_⟩
  rcases h.2 hf with ⟨h1, h2⟩ | ⟨⟨c', hc', q1, q2, w, q3, q4⟩, h2⟩
  · by_cases h0 : 0 < mn M (a ||| 2 ^ (c / 2))
    · have h3 := (hL.1 h0).1
      refine Or.inr ⟨⟨c, by omega, hq, h0, v, hv, ?_⟩, ?_⟩ <;> omega
    · have h3 := hL.2 h0
      refine Or.inl ⟨fun d hd q => ?_, by omega⟩
      by_cases e2 : d = c
      · subst e2; exact h0
      · exact h1 d (by omega) q
  · by_cases h0 : 0 < mn M (a ||| 2 ^ (c / 2))
    · have h3 := (hL.1 h0).1
      by_cases h4 : x.toInt ≤ v.toInt + (rd M 148 (17 * (a ||| 2 ^ (c / 2)) + c)).toInt
      · refine Or.inr ⟨⟨c', by omega, q1, q2, w, q3, ?_⟩, ?_⟩ <;> omega
      · refine Or.inr ⟨⟨c, by omega, hq, h0, v, hv, ?_⟩, ?_⟩ <;> omega
    · have h3 := hL.2 h0
      refine Or.inr ⟨⟨c', by omega, q1, q2, w, q3, ?_⟩, ?_⟩ <;> omega
theorem n2_of (hN : NM n m M) : ((2 : Int32) * (rd M (135 + 1) ((0 : Int32)).toNatClampNeg)).toInt = 2 * (n : Int) := by
  have hn := hN.2.1
  show ((2 : Int32) * rd M 136 0).toInt = _
  rw [hN.1, i_mulc (a := (2 : Int32)) (c := 2) rfl (by rw [t_of (by omega)]; omega) (by rw [t_of (by omega)]; omega), t_of (by omega)]
/-- layCost, when the sets behind are laid -/
theorem pl_cost_l (hM : OKm g M) (hN : NM n m M) (ha : a < 2 ^ n) (hl : l ≤ 16) (hb : a &&& m = m) (G : Gd n M a) (hA : Ald n m M (a + 1)) : ∀ (fuel c : Nat) (x3 x4 : Int32), Lc n M a l c x3 → c ≤ 2 * n → 2 * n - c < fuel → Sf (mX7_layCost_l36 135 fuel (Int32.ofNat a) (Int32.ofNat l) x3 x4 (Int32.ofNat c) M) (fun q => ∃ L H, q.1 = wr (wr M 148 (17 * a + l) L) 149 (17 * a + l) H ∧ Ldv n M a l L) := by
  intro fuel
  induction fuel with
  | zero => intro c x3 x4 _ _ h; exfalso; omega
  | succ fuel IH =>
    intro c x3 x4 hL hc hf
    have hn := hN.2.1
    have hp := z_pow n hn
    show Sf (mX7_layCost_b36 135 (mX7_layCost_l36 135 fuel) (Int32.ofNat a) (Int32.ofNat l) x3 x4 (Int32.ofNat c) M) _
    unfold mX7_layCost_b36
    have i17 : okb ((17 : Int32) * Int32.ofNat a + Int32.ofNat l) 4352 = true := ok_in (by rw [ix17 (by omega) (by omega)]; omega) (by rw [ix17 (by omega) (by omega)]; omega)
    refine Sf.k (by decide) (Sf.i (fun cc => ?_) (fun cc => ?_))
    · have cc := i_le.mp cc
      rw [n2_of hN, t_of (by omega)] at cc
      have : c = 2 * n := by omega
      subst this
      refine Sf.k i17 (Sf.b (fun M13 e13 => Sf.k i17 (Sf.b (fun M16 e16 => Sf.ok ⟨x3, x4, ?_, hL.fin G ha hn⟩))))
      show M16 = _
      rw [e16, e13, ix17c (by omega) (by omega)]
    · have cc := i_nle cc
      rw [n2_of hN, t_of (by omega)] at cc
      have hc2 : c < 2 * n := by omega
      have i16 : okb ((16 : Int32) * Int32.ofNat a + Int32.ofNat c) 4096 = true := ok_in (by rw [ix16 (by omega) (by omega)]; omega) (by rw [ix16 (by omega) (by omega)]; omega)
      refine Sf.k i16 ?_
      have nx : ∀ y3 y4, Lc n M a l (c + 1) y3 → Sf (mX7_layCost_b165 135 (mX7_layCost_l36 135 fuel) (Int32.ofNat a) (Int32.ofNat l) y3 y4 (Int32.ofNat c) M) (fun q => ∃ L H, q.1 = wr (wr M 148 (17 * a + l) L) 149 (17 * a + l) H ∧ Ldv n M a l L) := by
        intro y3 y4 hy
        unfold mX7_layCost_b165
        refine Sf.b (fun x ex => ?_)
        have e : x = Int32.ofNat (c + 1) := by rw [ex]; exact (Int32.ofNat_add c 1).symm
        rw [e]
        exact IH (c + 1) y3 y4 hy (by omega) (by omega)
      refine Sf.i (fun q => ?_) (fun q => ?_)
      · refine nx x3 x4 (hL.skip ?_)
        rw [ix16c (by omega) (by omega)] at q
        exact q
      · have hq : ¬ rd M 145 (16 * a + c) = 0 := by
          rw [ix16c (by omega) (by omega)] at q
          exact q
        have ht := G.2.2.1 c hc2 hq
        have hz := z_set n hn a ha (c / 2) (by omega) ht
        refine Sf.b (fun x6 e6 => ?_)
        rw [f_half c (by omega)] at e6
        subst e6
        have b117 : ∀ v : Int32, cstO M (Int32.ofNat a) (Int32.ofNat l) (Int32.ofNat c) = some v → 0 ≤ v.toInt ∧ v.toInt ≤ 297 → Sf (mX7_layCost_b117 135 (mX7_layCost_l36 135 fuel) (Int32.ofNat a) (Int32.ofNat l) x3 x4 (Int32.ofNat c) (Int32.ofNat (c / 2)) v M) (fun q => ∃ L H, q.1 = wr (wr M 148 (17 * a + l) L) 149 (17 * a + l) H ∧ Ldv n M a l L) := by
          intro v hv hv2
          unfold mX7_layCost_b117
          rw [f_or a (by omega) (c / 2) (by omega)]
          have i8 : okb ((17 : Int32) * Int32.ofNat (a ||| 2 ^ (c / 2)) + Int32.ofNat c) 4352 = true := ok_in (by rw [ix17 (by omega) (by omega)]; omega) (by rw [ix17 (by omega) (by omega)]; omega)
          refine Sf.b (fun x8 e8 => ?_)
          subst e8
          refine Sf.k i8 (Sf.b (fun y3 e3 => Sf.k i8 (Sf.b (fun y4 _ => nx y3 y4 ?_))))
          rw [ix17c (by omega) (by omega)] at e3
          exact hL.step hc2 hq ha hn hb G hA hv hv2 e3
        obtain ⟨v, ev, hv⟩ := cst_ok (a := a) (l := l) (c := c) hM (by omega) hl (by omega)
        have ev0 := ev
        unfold cstO at ev
        refine Sf.i (fun e => ?_) (fun e => ?_)
        · have e2 := ite_t e ev
          cases e2
          exact b117 0 ev0 hv
        · have e2 := ite_f e ev
          obtain ⟨r22, e22, e3⟩ := cap_s e2
          rw [e22]
          show Sf (chk (okb ((16 : Int32) * Int32.ofNat a + Int32.ofNat c) 4096) _) _
          refine Sf.k i16 ?_
          rw [f_mod c (by omega), f_half c (by omega)] at e3
          rw [f_mod c (by omega), e3]
          exact b117 v ev0 hv
theorem pl_cost (hM : OKm g M) (hN : NM n m M) (ha : a < 2 ^ n) (hl : l ≤ 16) (hb : a &&& m = m) (G : Gd n M a) (hA : Ald n m M (a + 1)) : Sf (mX7_layCost 135 (Int32.ofNat a) (Int32.ofNat l) M) (fun q => ∃ L H, q.1 = wr (wr M 148 (17 * a + l) L) 149 (17 * a + l) H ∧ Ldv n M a l L) := by
  have hn := hN.2.1
  have hp := z_pow n hn
  have st : ∀ x3 x4 : Int32, Lc n M a l 0 x3 → Sf (mX7_layCost_b31 135 (Int32.ofNat a) (Int32.ofNat l) x3 x4 M) (fun q => ∃ L H, q.1 = wr (wr M 148 (17 * a + l) L) 149 (17 * a + l) H ∧ Ldv n M a l L) := by
    intro x3 x4 h
    unfold mX7_layCost_b31
    exact pl_cost_l hM hN ha hl hb G hA 5000 0 x3 x4 h (by omega) (by omega)
  unfold mX7_layCost mX7_layCost_b15
  rw [pl_full hN]
  refine Sf.c (Q := fun r => r = Int32.ofNat (2 ^ n - 1)) ⟨_, rfl, rfl⟩ (fun r er => ?_)
  subst er
  refine Sf.i (fun e => ?_) (fun e => ?_)
  · have e2 := o_inj (a := a) (by omega) (by omega) e
    have h0 : Lc n M a l 0 0 := ⟨fun _ => rfl, fun q => absurd e2 q⟩
    refine Sf.c (Q := fun r => r = Int32.ofNat (2 ^ n - 1)) ⟨_, rfl, rfl⟩ (fun r er => ?_)
    exact Sf.i (fun _ => st _ _ h0) (fun _ => st _ _ h0)
  · have h0 : Lc n M a l 0 1000000 := ⟨fun q => absurd (congrArg Int32.ofNat q) e, fun _ => Or.inl ⟨fun c' h => absurd h (by omega), rfl⟩⟩
    refine Sf.c (Q := fun r => r = Int32.ofNat (2 ^ n - 1)) ⟨_, rfl, rfl⟩ (fun r er => ?_)
    exact Sf.i (fun _ => st _ _ h0) (fun _ => st _ _ h0)
end PC
section PD
variable {g : Gm} {M : Mem} {n m : Nat}
def Pl (g : Gm) (n m : Nat) (M : Mem) : Prop := OKm (w2 g) M ∧ NM n m M ∧ Al n m M 0
theorem Pl.put {k j : Nat} {v : Int32} (h : Pl g n m M) (hk : k = 146 ∨ k = 148 ∨ k = 149) : Pl g n m (wr M k j v) := by
  have e1 : ∀ j', rd (wr M k j v) 145 j' = rd M 145 j' := fun j' => rd_wk (by omega)
  have e2 : ∀ j', rd (wr M k j v) 136 j' = rd M 136 j' := fun j' => rd_wk (by omega)
  refine ⟨?_, ⟨(e2 0).trans h.2.1.1, h.2.1.2.1, (e2 52).trans h.2.1.2.2.1, h.2.1.2.2.2⟩, fun b hb hb2 hb3 => (h.2.2 b hb hb2 hb3).of (fun c _ => e1 _) (fun b' _ => rfl)⟩
  rcases hk with rfl | rfl | rfl
  · exact h.1.put (b := bT) rfl (i_rng _)
  · exact h.1.put (b := bT) rfl (i_rng _)
  · exact h.1.put (b := bT) rfl (i_rng _)
theorem Pl.keep {M' : Mem} (h : Pl g n m M) (h' : OKm (w2 g) M') (hk : Keep M M') : Pl g n m M' :=
  ⟨h', h.2.1.keep hk, fun b hb hb2 hb3 => (h.2.2 b hb hb2 hb3).of (fun c _ => hk.1 145 _ (by unfold W1; omega)) (fun b' _ => hk.2 147 b')⟩
/-- the sets from the last one on -/
theorem pl_sets_in {a : Nat} {P : Mem × Unit → Prop} {ih67 : Int32 → Mem → Option (Mem × Unit)} (ha : a < 2 ^ n) (H : ∀ M, Pl g n m M → Ald n m M a → Sf (ih67 (Int32.ofNat a + (-1 : Int32)) M) P) : ∀ (fuel l : Nat) (M : Mem), Pl g n m M → Ald n m M (a + 1) → (a &&& m = m → ∀ l', l' < l → VL n a l' → Ldv n M a l' (rd M 148 (17 * a + l'))) → l ≤ 17 → 17 - l < fuel → Sf (mX7_layCosts_l73 135 ih67 fuel (Int32.ofNat a) (Int32.ofNat l) M) P := by
  intro fuel
  induction fuel with
  | zero => intro l M _ _ _ _ h; exfalso; omega
  | succ fuel IH =>
    intro l M hP hA hI hl hf
    have hN := hP.2.1
    have hn := hN.2.1
    have hp := z_pow n hn
    show Sf (mX7_layCosts_b73 135 ih67 (mX7_layCosts_l73 135 ih67 fuel) (Int32.ofNat a) (Int32.ofNat l) M) P
    have fin : (a &&& m = m → ∀ l', VL n a l' → Ldv n M a l' (rd M 148 (17 * a + l'))) → Sf (mX7_layCosts_b127 135 ih67 (Int32.ofNat a) M) P := by
      intro h
      unfold mX7_layCosts_b127
      refine Sf.b (fun x ex => ?_)
      rw [ex]
      refine H M hP (fun b hb hb2 hb3 => ?_)
      by_cases e : b = a
      · subst e; exact h hb3
      · exact hA b (by omega) hb2 hb3
    have nx : ∀ M', Pl g n m M' → Ald n m M' (a + 1) → (a &&& m = m → ∀ l', l' < l + 1 → VL n a l' → Ldv n M' a l' (rd M' 148 (17 * a + l'))) → l < 17 → Sf (mX7_layCosts_b121 135 ih67 (mX7_layCosts_l73 135 ih67 fuel) (Int32.ofNat a) (Int32.ofNat l) M') P := by
      intro M' hP' hA' hI' hl'
      unfold mX7_layCosts_b121
      refine Sf.b (fun x ex => ?_)
      have e : x = Int32.ofNat (l + 1) := by rw [ex]; exact (Int32.ofNat_add l 1).symm
      rw [e]
      exact IH (l + 1) M' hP' hA' hI' (by omega) (by omega)
    unfold mX7_layCosts_b73
    refine Sf.i (fun c => fin (fun hb l' hv => hI hb l' ?_ hv)) (fun c => ?_)
    · have c := i_le.mp c
      rw [t_of (by omega), show ((17 : Int32)).toInt = 17 from rfl] at c
      rcases hv with e | ⟨e, _⟩ <;> omega
    · have c := i_nle c
      rw [t_of (by omega), show ((17 : Int32)).toInt = 17 from rfl] at c
      rw [pl_behind hN (a := a) (by omega)]
      refine Sf.c (Q := fun r => r = if a &&& m = m then 1 else 0) ⟨_, rfl, rfl⟩ (fun r er => ?_)
      by_cases hb : a &&& m = m
      · rw [if_pos hb] at er
        subst er
        refine Sf.i (fun q => absurd q (by decide)) (fun _ => ?_)
        have G := hP.2.2 a (by omega) ha hb
        have skip : (¬ VL n a l) → Sf (mX7_layCosts_b121 135 ih67 (mX7_layCosts_l73 135 ih67 fuel) (Int32.ofNat a) (Int32.ofNat l) M) P := by
          intro hv
          refine nx M hP hA (fun _ l' hl' hv' => ?_) (by omega)
          by_cases e : l' = l
          · subst e; exact absurd hv' hv
          · exact hI hb l' (by omega) hv'
        have lay : VL n a l → Sf (mX7_layCosts_b115 135 ih67 (mX7_layCosts_l73 135 ih67 fuel) (Int32.ofNat a) (Int32.ofNat l) M) P := by
          intro hv
          unfold mX7_layCosts_b115
          refine Sf.m (pl_cost hP.1 hN ha (by omega) hb G hA) (fun M21 _ p => ?_)
          obtain ⟨L, Hh, e21, hL⟩ := p
          have e21 : M21 = wr (wr M 148 (17 * a + l) L) 149 (17 * a + l) Hh := e21
          have P21 : Pl g n m M21 := by rw [e21]; exact (hP.put (Or.inr (Or.inl rfl))).put (Or.inr (Or.inr rfl))
          have r145 : ∀ j, rd M21 145 j = rd M 145 j := fun j => by rw [e21, rd_wk (by decide), rd_wk (by decide)]
          have r136 : ∀ j, rd M21 (135 + 1) j = rd M (135 + 1) j := fun j => by rw [e21, rd_wk (by decide), rd_wk (by decide)]
          have r146 : ∀ j, rd M21 (135 + 11) j = rd M (135 + 11) j := fun j => by rw [e21, rd_wk (by decide), rd_wk (by decide)]
          have l147 : ∀ j, rl M21 147 j = rl M 147 j := fun j => by rw [e21]; rfl
          have r148 : ∀ j, j ≠ 17 * a + l → rd M21 148 j = rd M 148 j := fun j hj => by rw [e21, rd_wk (by decide), rd_wj hj]
          have e148 : rd M21 148 (17 * a + l) = L := by rw [e21, rd_wk (by decide), rd_we]
          have cs := cst_same r136 r146
          refine nx M21 P21 (fun b hb1 hb2 hb3 l' hv' => ?_) (fun _ l' hl' hv' => ?_) (by omega)
          · have hl16 : l' ≤ 16 := by rcases hv' with e | ⟨e, _⟩ <;> omega
            rw [r148 _ (by omega)]
            exact (hA b hb1 hb2 hb3 l' hv').of (hP.2.2 b (by omega) hb2 hb3) hb2 hn r145 l147 cs (fun b' c' h1 h2 => r148 _ (by omega))
          · by_cases e : l' = l
            · subst e
              rw [e148]
              exact hL.of G ha hn r145 l147 cs (fun b' c' h1 h2 => r148 _ (by omega))
            · rw [r148 _ (by omega)]
              exact (hI hb l' (by omega) hv').of G ha hn r145 l147 cs (fun b' c' h1 h2 => r148 _ (by omega))
        refine Sf.i (fun e => lay (Or.inl (o_inj (a := l) (b := 16) (by omega) (by omega) e))) (fun e => Sf.k (by decide) (Sf.i (fun c2 => skip (fun hv => ?_)) (fun c2 => ?_)))
        · have c2 := i_le.mp c2
          rw [n2_of hN, t_of (by omega)] at c2
          rcases hv with q | ⟨q, _⟩
          · exact e (by rw [q]; rfl)
          · omega
        · have c2 := i_nle c2
          rw [n2_of hN, t_of (by omega)] at c2
          rw [f_half l (by omega)]
          unfold mX7_has
          by_cases t : a.testBit (l / 2) = true
          · have t2 := (f_has a (by omega) (l / 2) (by omega)).mpr t
            refine Sf.c (Q := fun r => r = 1) ⟨1, by unfold ite2; rw [if_pos t2], rfl⟩ (fun r er => ?_)
            subst er
            exact Sf.i (fun q => absurd q (by decide)) (fun _ => lay (Or.inr ⟨by omega, t⟩))
          · have t2 := mt (f_has a (by omega) (l / 2) (by omega)).mp t
            refine Sf.c (Q := fun r => r = 0) ⟨0, by unfold ite2; rw [if_neg t2], rfl⟩ (fun r er => ?_)
            subst er
            refine Sf.i (fun _ => skip (fun hv => ?_)) (fun q => absurd rfl q)
            rcases hv with q | ⟨_, q⟩
            · exact e (by rw [q]; rfl)
            · exact t q
      · rw [if_neg hb] at er
        subst er
        exact Sf.i (fun _ => fin (fun q => absurd q hb)) (fun q => absurd rfl q)
theorem pl_sets : ∀ (fuel a : Nat) (x : Int32) (M : Mem), x.toInt = (a : Int) - 1 → a ≤ 2 ^ n → Pl g n m M → Ald n m M a → a < fuel → Sf (mX7_layCosts_l67 135 fuel x M) (fun q => Pl g n m q.1 ∧ Ald n m q.1 0) := by
  intro fuel
  induction fuel with
  | zero => intro a x M _ _ _ _ h; exfalso; omega
  | succ fuel IH =>
    intro a x M hx ha hP hA hf
    have hp := z_pow n hP.2.1.2.1
    show Sf (mX7_layCosts_b67 135 (mX7_layCosts_l67 135 fuel) x M) _
    unfold mX7_layCosts_b67
    refine Sf.i (fun c => ?_) (fun c => ?_)
    · have c := i_lt.mp c
      rw [show ((0 : Int32)).toInt = 0 from rfl] at c
      have : a = 0 := by omega
      subst this
      exact Sf.ok ⟨hP, hA⟩
    · have c := i_nlt c
      rw [show ((0 : Int32)).toInt = 0 from rfl] at c
      obtain ⟨b, rfl⟩ : ∃ b, a = b + 1 := ⟨a - 1, by omega⟩
      have ex : x = Int32.ofNat b := by
        have := o_of (x := x) (by omega)
        rw [this]; congr 1; omega
      subst ex
      refine pl_sets_in (g := g) (n := n) (m := m) (by omega) (fun M' h' A' => ?_) 5000 0 M hP hA (fun _ l' h => absurd h (by omega)) (by omega) (by omega)
      refine IH b _ M' ?_ (by omega) h' A' (by omega)
      rw [i_add (by rw [t_of (by omega), show ((-1 : Int32)).toInt = -1 from rfl]; omega) (by rw [t_of (by omega), show ((-1 : Int32)).toInt = -1 from rfl]; omega), t_of (by omega)]
      rfl
/-- the gauges -/
theorem pl_gauges_in {a : Nat} {P : Mem × Unit → Prop} {ih6 : Int32 → Mem → Option (Mem × Unit)} (ha : a < 2 ^ n) (H : ∀ M, Pl g n m M → Sf (ih6 (Int32.ofNat (a + 1)) M) P) : ∀ (fuel c : Nat) (M : Mem), Pl g n m M → c ≤ 2 * n → 2 * n - c < fuel → Sf (mX7_layCosts_l16 135 ih6 fuel (Int32.ofNat a) (Int32.ofNat c) M) P := by
  intro fuel
  induction fuel with
  | zero => intro c M _ _ h; exfalso; omega
  | succ fuel IH =>
    intro c M hP hc hf
    have hN := hP.2.1
    have hn := hN.2.1
    have hp := z_pow n hn
    show Sf (mX7_layCosts_b16 135 ih6 (mX7_layCosts_l16 135 ih6 fuel) (Int32.ofNat a) (Int32.ofNat c) M) P
    unfold mX7_layCosts_b16
    refine Sf.k (by decide) (Sf.i (fun _ => Sf.b (fun x ex => ?_)) (fun cc => ?_))
    · have e : x = Int32.ofNat (a + 1) := by rw [ex]; exact (Int32.ofNat_add a 1).symm
      rw [e]; exact H M hP
    · have cc := i_nle cc
      rw [n2_of hN, t_of (by omega)] at cc
      rw [f_mod c (by omega), f_half c (by omega)]
      have i16 : okb ((16 : Int32) * Int32.ofNat a + Int32.ofNat c) 4096 = true := ok_in (by rw [ix16 (by omega) (by omega)]; omega) (by rw [ix16 (by omega) (by omega)]; omega)
      refine Sf.m (fr (R := fun _ => True) hP.1 (fun g' h' => Sf.mono (sX7_gaugeOf h' (x1 := Int32.ofNat (c / 2)) (x2 := Int32.ofNat (c % 2)) (x3 := Int32.ofNat a) (by rw [t_of (by omega)]; omega) (by rw [t_of (by omega)]; omega) (by rw [t_of (by omega)]; omega)) (fun q hq => ⟨hq.1, trivial⟩))) (fun M34 r33 p => ?_)
      have P34 : Pl g n m M34 := hP.keep p.1 p.2.1
      refine Sf.k i16 (Sf.b (fun M37 e37 => Sf.b (fun x ex => ?_)))
      have e : x = Int32.ofNat (c + 1) := by rw [ex]; exact (Int32.ofNat_add c 1).symm
      rw [e]
      exact IH (c + 1) M37 (by rw [e37]; exact P34.put (Or.inl rfl)) (by omega) (by omega)
theorem pl_gauges : ∀ (fuel a : Nat) (M : Mem), Pl g n m M → a ≤ 2 ^ n → 2 ^ n - a < fuel → Sf (mX7_layCosts_l6 135 fuel (Int32.ofNat a) M) (fun q => Pl g n m q.1 ∧ Ald n m q.1 0) := by
  intro fuel
  induction fuel with
  | zero => intro a M _ _ h; exfalso; omega
  | succ fuel IH =>
    intro a M hP ha hf
    have hN := hP.2.1
    have hn := hN.2.1
    have hp := z_pow n hn
    show Sf (mX7_layCosts_b6 135 (mX7_layCosts_l6 135 fuel) (Int32.ofNat a) M) _
    unfold mX7_layCosts_b6
    rw [pl_full hN]
    refine Sf.c (Q := fun r => r = Int32.ofNat (2 ^ n - 1)) ⟨_, rfl, rfl⟩ (fun r er => ?_)
    subst er
    refine Sf.i (fun c => ?_) (fun c => ?_)
    · refine Sf.c (Q := fun r => r = Int32.ofNat (2 ^ n - 1)) ⟨_, rfl, rfl⟩ (fun r er => ?_)
      subst er
      exact pl_sets 5000 (2 ^ n) _ M (by rw [t_of (by omega)]; omega) (by omega) hP (fun b h1 h2 => by omega) (by omega)
    · have c := i_nlt c
      rw [t_of (by omega), t_of (by omega)] at c
      refine pl_gauges_in (n := n) (m := m) (by omega) (fun M' h' => IH (a + 1) M' h' (by omega) (by omega)) 5000 0 M hP (by omega) (by omega)
theorem sX7_layCosts' (h : OKm g M) (hN : NM n m M) : Sf (mX7_layCosts 135 M) (fun q => Pl g n m q.1 ∧ Ald n m q.1 0) := by
  have hp := z_pow n hN.2.1
  unfold mX7_layCosts
  refine Sf.m (sX7_layOrders' h hN) (fun M3 _ p => ?_)
  exact pl_gauges 5000 0 M3 p (by omega) (by omega)
end PD
end
/-! part 59d.reach -/
section
set_option maxHeartbeats 2000000 in
theorem sX7_layReached_b107 {g : Gm} {ih44 : Int32 → Mem → Option (Mem × Unit)} {x1 : Int32} {M : Mem} {d44 : Nat} (h_M : OKm (w2 g) M) (hx1 : (0 : Int) ≤ (x1).toInt ∧ (x1).toInt ≤ 255) (hih44 : ∀ (yx1 : Int32) (M : Mem), OKm (w2 g) M → ((0 : Int) ≤ (yx1).toInt ∧ (yx1).toInt ≤ 256) → 256 - (yx1).toInt < d44 → Sf (ih44 yx1 M) (qM (w2 g))) (hmu44 : 256 - (x1).toInt ≤ d44) : Sf (mX7_layReached_b107 135 ih44 x1 M) (qM (w2 g)) := by
  unfold mX7_layReached_b107
  have n_1 : ((1 : Int32)).toInt = 1 := rfl
  try have a_2 : ((x1 + (1 : Int32))).toInt = (x1).toInt + ((1 : Int32)).toInt := i_add (by omega) (by omega)
  refine Sf.b (fun x1_107 e_x1_107 => ?_)
  have d_x1_107 := congrArg Int32.toInt e_x1_107
  exact (hih44 _ _ h_M ⟨by omega, by omega⟩ (by omega))
set_option maxHeartbeats 2000000 in
theorem sX7_layReached_b54 {g : Gm} {ih44 : Int32 → Mem → Option (Mem × Unit)} {ih54 : Int32 → Int32 → Mem → Option (Mem × Unit)} {x1 : Int32} {x2 : Int32} {M : Mem} {d44 : Nat} {d54 : Nat} (h_M : OKm (w2 g) M) (hx1 : (0 : Int) ≤ (x1).toInt ∧ (x1).toInt ≤ 255) (hx2 : (0 : Int) ≤ (x2).toInt ∧ (x2).toInt ≤ 16) (hih44 : ∀ (yx1 : Int32) (M : Mem), OKm (w2 g) M → ((0 : Int) ≤ (yx1).toInt ∧ (yx1).toInt ≤ 256) → 256 - (yx1).toInt < d44 → Sf (ih44 yx1 M) (qM (w2 g))) (hmu44 : 256 - (x1).toInt ≤ d44) (hih54 : ∀ (yx1 : Int32) (yx2 : Int32) (M : Mem), OKm (w2 g) M → ((0 : Int) ≤ (yx1).toInt ∧ (yx1).toInt ≤ 255) → ((0 : Int) ≤ (yx2).toInt ∧ (yx2).toInt ≤ 16) → (256 - (yx1).toInt ≤ d44) → 16 - (yx2).toInt < d54 → Sf (ih54 yx1 yx2 M) (qM (w2 g))) (hmu54 : 16 - (x2).toInt ≤ d54) : Sf (mX7_layReached_b54 135 ih44 ih54 x1 x2 M) (qM (w2 g)) := by
  unfold mX7_layReached_b54
  have n_1 : ((0 : Int32)).toInt = 0 := rfl
  refine Sf.k (ok_in (by omega) (by omega)) ?_
  have n_2 : ((2 : Int32)).toInt = 2 := rfl
  have b_3 : (0 : Int) ≤ (rd M (135 + 1) (((0 : Int32)).toNatClampNeg)).toInt ∧ (rd M (135 + 1) (((0 : Int32)).toNatClampNeg)).toInt ≤ 8 := h_M.ri 0 0 (by decide +kernel) (by omega) (by omega)
  try have a_4 : (((2 : Int32) * (rd M (135 + 1) (((0 : Int32)).toNatClampNeg)))).toInt = 2 * ((rd M (135 + 1) (((0 : Int32)).toNatClampNeg))).toInt := i_mulc (by omega) (by omega) (by omega)
  refine Sf.i (fun c_5 => ?_) (fun c_5 => ?_)
  · have c_5 := i_le.mp c_5
    exact (sX7_layReached_b107 h_M ⟨by omega, by omega⟩ hih44 (by omega))
  · have c_5 := i_nle c_5
    refine Sf.k (ok_in (by omega) (by omega)) ?_
    have b_6 : (0 : Int) ≤ (rd M (135 + 15) ((x1).toNatClampNeg)).toInt ∧ (rd M (135 + 15) ((x1).toNatClampNeg)).toInt ≤ 1 := h_M.at rfl
    have n_7 : ((0 : Int32)).toInt = 0 := rfl
    refine Sf.i (fun c_8 => ?_) (fun c_8 => ?_)
    · have c_8 := i_eq.mp c_8
      exact (sX7_layReached_b107 h_M ⟨by omega, by omega⟩ hih44 (by omega))
    · have c_8 := i_ne c_8
      try have a_9 : ((x2 / (2 : Int32))).toInt = (x2).toInt / 2 := (i_div (by omega) (by omega)).trans (by rw [show ((2 : Int32)).toInt = 2 from rfl])
      try have a_10 : 0 < (((1 : Int32) <<< ((x2 / (2 : Int32)) &&& 31))).toInt ∧ (((1 : Int32) <<< ((x2 / (2 : Int32)) &&& 31))).toInt ≤ 128 := i_shl 7 (by decide) ⟨by omega, by omega⟩
      try have a_11 : 0 ≤ ((x1 ||| ((1 : Int32) <<< ((x2 / (2 : Int32)) &&& 31)))).toInt ∧ ((x1 ||| ((1 : Int32) <<< ((x2 / (2 : Int32)) &&& 31)))).toInt < 256 := i_or 8 (by decide) ⟨by omega, by omega⟩ ⟨by omega, by omega⟩
      refine Sf.k (ok_in (by omega) (by omega)) ?_
      have n_12 : ((16 : Int32)).toInt = 16 := rfl
      try have a_13 : (((16 : Int32) * x1)).toInt = 16 * (x1).toInt := i_mulc (by omega) (by omega) (by omega)
      try have a_14 : ((((16 : Int32) * x1) + x2)).toInt = (((16 : Int32) * x1)).toInt + (x2).toInt := i_add (by omega) (by omega)
      refine Sf.k (ok_in (by omega) (by omega)) ?_
      refine Sf.k (ok_in (by omega) (by omega)) ?_
      have v_15 := nar_boolean (x := ((rd M (135 + 15) (((x1 ||| ((1 : Int32) <<< ((x2 / (2 : Int32)) &&& 31)))).toNatClampNeg)) ||| (rd M (135 + 10) (((((16 : Int32) * x1) + x2)).toNatClampNeg))))
      have z_16 : (0 : Int) ≤ ((vp_nar .boolean ((rd M (135 + 15) (((x1 ||| ((1 : Int32) <<< ((x2 / (2 : Int32)) &&& 31)))).toNatClampNeg)) ||| (rd M (135 + 10) (((((16 : Int32) * x1) + x2)).toNatClampNeg))))).toInt ∧ ((vp_nar .boolean ((rd M (135 + 15) (((x1 ||| ((1 : Int32) <<< ((x2 / (2 : Int32)) &&& 31)))).toNatClampNeg)) ||| (rd M (135 + 10) (((((16 : Int32) * x1) + x2)).toNatClampNeg))))).toInt ≤ 1 := ⟨by omega, by omega⟩
      refine Sf.b (fun M21 e_M21 => ?_)
      have h_M21 : OKm (w2 g) M21 := by rw [e_M21]; exact h_M.put rfl z_16
      have n_17 : ((1 : Int32)).toInt = 1 := rfl
      try have a_18 : ((x2 + (1 : Int32))).toInt = (x2).toInt + ((1 : Int32)).toInt := i_add (by omega) (by omega)
      refine Sf.b (fun x2_101 e_x2_101 => ?_)
      have d_x2_101 := congrArg Int32.toInt e_x2_101
      exact (hih54 _ _ _ h_M21 ⟨by omega, by omega⟩ ⟨by omega, by omega⟩ (by omega) (by omega))
theorem sX7_layReached_l54_n {g : Gm}  {ih44 : Int32 → Mem → Option (Mem × Unit)} {d44 : Nat} (hih44 : ∀ (yx1 : Int32) (M : Mem), OKm (w2 g) M → ((0 : Int) ≤ (yx1).toInt ∧ (yx1).toInt ≤ 256) → 256 - (yx1).toInt < d44 → Sf (ih44 yx1 M) (qM (w2 g))) : ∀ (n : Nat) (x1 : Int32) (x2 : Int32) (M : Mem) (h_M : OKm (w2 g) M) (hx1 : (0 : Int) ≤ (x1).toInt ∧ (x1).toInt ≤ 255) (hx2 : (0 : Int) ≤ (x2).toInt ∧ (x2).toInt ≤ 16)   (hmu44 : 256 - (x1).toInt ≤ d44) (hmu : 16 - (x2).toInt < n), Sf (mX7_layReached_l54 135 ih44 n x1 x2 M) (qM (w2 g)) := by
  intro n
  induction n with
  | zero => intro x1 x2 M h_M hx1 hx2 hmu44 hmu; exfalso; omega
  | succ n IH => intro x1 x2 M h_M hx1 hx2 hmu44 hmu; exact sX7_layReached_b54  h_M hx1 hx2   hih44 hmu44 IH (by omega)
theorem sX7_layReached_l54 {g : Gm}  {x1 : Int32} {x2 : Int32} {M : Mem} {ih44 : Int32 → Mem → Option (Mem × Unit)} {d44 : Nat} (h_M : OKm (w2 g) M) (hx1 : (0 : Int) ≤ (x1).toInt ∧ (x1).toInt ≤ 255) (hx2 : (0 : Int) ≤ (x2).toInt ∧ (x2).toInt ≤ 16)   (hih44 : ∀ (yx1 : Int32) (M : Mem), OKm (w2 g) M → ((0 : Int) ≤ (yx1).toInt ∧ (yx1).toInt ≤ 256) → 256 - (yx1).toInt < d44 → Sf (ih44 yx1 M) (qM (w2 g))) (hmu44 : 256 - (x1).toInt ≤ d44) (hmu : 16 - (x2).toInt < 5000) : Sf (mX7_layReached_l54 135 ih44 5000 x1 x2 M) (qM (w2 g)) :=
  sX7_layReached_l54_n  hih44 5000 _ _ M h_M hx1 hx2   hmu44 hmu
set_option maxHeartbeats 2000000 in
theorem sX7_layReached_b44 {g : Gm} {ih44 : Int32 → Mem → Option (Mem × Unit)} {x1 : Int32} {M : Mem} {d44 : Nat} (h_M : OKm (w2 g) M) (hx1 : (0 : Int) ≤ (x1).toInt ∧ (x1).toInt ≤ 256) (hih44 : ∀ (yx1 : Int32) (M : Mem), OKm (w2 g) M → ((0 : Int) ≤ (yx1).toInt ∧ (yx1).toInt ≤ 256) → 256 - (yx1).toInt < d44 → Sf (ih44 yx1 M) (qM (w2 g))) (hmu44 : 256 - (x1).toInt ≤ d44) : Sf (mX7_layReached_b44 135 ih44 x1 M) (qM (w2 g)) := by
  unfold mX7_layReached_b44
  refine Sf.c (sX7_full h_M) (fun r9 p_1 => ?_)
  obtain ⟨p_1a, p_1b⟩ := p_1
  refine Sf.i (fun c_2 => ?_) (fun c_2 => ?_)
  · have c_2 := i_lt.mp c_2
    exact Sf.ok h_M
  · have c_2 := i_nlt c_2
    have n_3 : ((0 : Int32)).toInt = 0 := rfl
    exact (sX7_layReached_l54 h_M ⟨by omega, by omega⟩ ⟨by omega, by omega⟩ hih44 (by omega) (by omega))
theorem sX7_layReached_l44_n {g : Gm}    : ∀ (n : Nat) (x1 : Int32) (M : Mem) (h_M : OKm (w2 g) M) (hx1 : (0 : Int) ≤ (x1).toInt ∧ (x1).toInt ≤ 256)    (hmu : 256 - (x1).toInt < n), Sf (mX7_layReached_l44 135 n x1 M) (qM (w2 g)) := by
  intro n
  induction n with
  | zero => intro x1 M h_M hx1 hmu; exfalso; omega
  | succ n IH => intro x1 M h_M hx1 hmu; exact sX7_layReached_b44  h_M hx1    IH (by omega)
theorem sX7_layReached_l44 {g : Gm}  {x1 : Int32} {M : Mem}  (h_M : OKm (w2 g) M) (hx1 : (0 : Int) ≤ (x1).toInt ∧ (x1).toInt ≤ 256)    (hmu : 256 - (x1).toInt < 5000) : Sf (mX7_layReached_l44 135 5000 x1 M) (qM (w2 g)) :=
  sX7_layReached_l44_n   5000 _ M h_M hx1    hmu
set_option maxHeartbeats 2000000 in
theorem sX7_layReached_b35 {g : Gm} {ih6 : Int32 → Mem → Option (Mem × Unit)} {x1 : Int32} {y1 : Int32} {y2 : Int32} {M : Mem} {d6 : Nat} (h_M : OKm (w2 g) M) (hx1 : (0 : Int) ≤ (x1).toInt ∧ (x1).toInt ≤ 255) (hy1 : (0 : Int) ≤ (y1).toInt ∧ (y1).toInt ≤ 255) (hy2 : (0 : Int) ≤ (y2).toInt ∧ (y2).toInt ≤ 1) (hih6 : ∀ (yx1 : Int32) (M : Mem), OKm (w2 g) M → ((0 : Int) ≤ (yx1).toInt ∧ (yx1).toInt ≤ 256) → 256 - (yx1).toInt < d6 → Sf (ih6 yx1 M) (qM (w2 g))) (hmu6 : 256 - (x1).toInt ≤ d6) : Sf (mX7_layReached_b35 135 ih6 x1 y1 y2 M) (qM (w2 g)) := by
  unfold mX7_layReached_b35
  refine Sf.k (ok_in (by omega) (by omega)) ?_
  have v_1 := nar_boolean (x := y2)
  have z_2 : (0 : Int) ≤ ((vp_nar .boolean y2)).toInt ∧ ((vp_nar .boolean y2)).toInt ≤ 1 := ⟨by omega, by omega⟩
  refine Sf.b (fun M27 e_M27 => ?_)
  have h_M27 : OKm (w2 g) M27 := by rw [e_M27]; exact h_M.put rfl z_2
  have n_3 : ((1 : Int32)).toInt = 1 := rfl
  try have a_4 : ((x1 + (1 : Int32))).toInt = (x1).toInt + ((1 : Int32)).toInt := i_add (by omega) (by omega)
  refine Sf.b (fun x1_36 e_x1_36 => ?_)
  have d_x1_36 := congrArg Int32.toInt e_x1_36
  exact (hih6 _ _ h_M27 ⟨by omega, by omega⟩ (by omega))
set_option maxHeartbeats 2000000 in
theorem sX7_layReached_b6 {g : Gm} {ih6 : Int32 → Mem → Option (Mem × Unit)} {x1 : Int32} {M : Mem} {d6 : Nat} (h_M : OKm (w2 g) M) (hx1 : (0 : Int) ≤ (x1).toInt ∧ (x1).toInt ≤ 256) (hih6 : ∀ (yx1 : Int32) (M : Mem), OKm (w2 g) M → ((0 : Int) ≤ (yx1).toInt ∧ (yx1).toInt ≤ 256) → 256 - (yx1).toInt < d6 → Sf (ih6 yx1 M) (qM (w2 g))) (hmu6 : 256 - (x1).toInt ≤ d6) : Sf (mX7_layReached_b6 135 ih6 x1 M) (qM (w2 g)) := by
  unfold mX7_layReached_b6
  refine Sf.c (sX7_full h_M) (fun r5 p_1 => ?_)
  obtain ⟨p_1a, p_1b⟩ := p_1
  refine Sf.i (fun c_2 => ?_) (fun c_2 => ?_)
  · have c_2 := i_lt.mp c_2
    have n_3 : ((0 : Int32)).toInt = 0 := rfl
    exact (sX7_layReached_l44 h_M ⟨by omega, by omega⟩ (by omega))
  · have c_2 := i_nlt c_2
    have n_4 : ((52 : Int32)).toInt = 52 := rfl
    refine Sf.k (ok_in (by omega) (by omega)) ?_
    have b_5 : (0 : Int) ≤ (rd M (135 + 1) (((52 : Int32)).toNatClampNeg)).toInt ∧ (rd M (135 + 1) (((52 : Int32)).toNatClampNeg)).toInt ≤ 255 := h_M.ri 52 52 (by decide +kernel) (by omega) (by omega)
    refine Sf.i (fun c_6 => ?_) (fun c_6 => ?_)
    · have c_6 := i_eq.mp c_6
      have n_7 : ((1 : Int32)).toInt = 1 := rfl
      exact (sX7_layReached_b35 h_M ⟨by omega, by omega⟩ ⟨by omega, by omega⟩ ⟨by omega, by omega⟩ hih6 (by omega))
    · have c_6 := i_ne c_6
      have n_8 : ((0 : Int32)).toInt = 0 := rfl
      exact (sX7_layReached_b35 h_M ⟨by omega, by omega⟩ ⟨by omega, by omega⟩ ⟨by omega, by omega⟩ hih6 (by omega))
theorem sX7_layReached_l6_n {g : Gm}    : ∀ (n : Nat) (x1 : Int32) (M : Mem) (h_M : OKm (w2 g) M) (hx1 : (0 : Int) ≤ (x1).toInt ∧ (x1).toInt ≤ 256)    (hmu : 256 - (x1).toInt < n), Sf (mX7_layReached_l6 135 n x1 M) (qM (w2 g)) := by
  intro n
  induction n with
  | zero => intro x1 M h_M hx1 hmu; exfalso; omega
  | succ n IH => intro x1 M h_M hx1 hmu; exact sX7_layReached_b6  h_M hx1    IH (by omega)
theorem sX7_layReached_l6 {g : Gm}  {x1 : Int32} {M : Mem}  (h_M : OKm (w2 g) M) (hx1 : (0 : Int) ≤ (x1).toInt ∧ (x1).toInt ≤ 256)    (hmu : 256 - (x1).toInt < 5000) : Sf (mX7_layReached_l6 135 5000 x1 M) (qM (w2 g)) :=
  sX7_layReached_l6_n   5000 _ M h_M hx1    hmu
set_option maxHeartbeats 2000000 in
theorem sX7_lastSteps_b69 {g : Gm} {ih13 : Int32 → Int32 → Mem → Option (Mem × Int32)} {x2 : Int32} {y0 : Int32} {y1 : Int32} {M : Mem} {d13 : Nat} (h_M : OKm (w2 g) M) (hx2 : (0 : Int) ≤ (x2).toInt ∧ (x2).toInt ≤ 15) (hy0 : (0 : Int) ≤ (y0).toInt ∧ (y0).toInt ≤ 2147483647) (hy1 : (0 : Int) ≤ (y1).toInt ∧ (y1).toInt ≤ 89991) (he0 : (1 : Int) ≤ (rd M (135 + 1) ((((0 : Int32)).toNatClampNeg))).toInt ∧ (rd M (135 + 1) ((((0 : Int32)).toNatClampNeg))).toInt ≤ 8) (hih13 : ∀ (yx1 : Int32) (yx2 : Int32) (M : Mem), OKm (w2 g) M → ((0 : Int) ≤ (yx1).toInt ∧ (yx1).toInt ≤ 2147483647) → ((0 : Int) ≤ (yx2).toInt ∧ (yx2).toInt ≤ 16) → 16 - (yx2).toInt < d13 → Sf (ih13 yx1 yx2 M) (qMI (w2 g) (0) (2147483647))) (hmu13 : 16 - (x2).toInt ≤ d13) : Sf (mX7_lastSteps_b69 135 ih13 x2 y0 y1 M) (qMI (w2 g) (0) (2147483647)) := by
  unfold mX7_lastSteps_b69
  try have a_1 : 0 ≤ ((y0 ||| y1)).toInt ∧ ((y0 ||| y1)).toInt < 2147483648 := i_or 31 (by decide) ⟨by omega, by omega⟩ ⟨by omega, by omega⟩
  refine Sf.b (fun x1_70 e_x1_70 => ?_)
  have d_x1_70 := congrArg Int32.toInt e_x1_70
  have n_2 : ((1 : Int32)).toInt = 1 := rfl
  try have a_3 : ((x2 + (1 : Int32))).toInt = (x2).toInt + ((1 : Int32)).toInt := i_add (by omega) (by omega)
  refine Sf.b (fun x2_71 e_x2_71 => ?_)
  have d_x2_71 := congrArg Int32.toInt e_x2_71
  have g_4 := i_rng x1_70
  exact (hih13 _ _ _ h_M ⟨by omega, by omega⟩ ⟨by omega, by omega⟩ (by omega))
set_option maxHeartbeats 2000000 in
theorem sX7_lastSteps_b68 {g : Gm} {ih13 : Int32 → Int32 → Mem → Option (Mem × Int32)} {x2 : Int32} {y0 : Int32} {M : Mem} {d13 : Nat} (h_M : OKm (w2 g) M) (hx2 : (0 : Int) ≤ (x2).toInt ∧ (x2).toInt ≤ 15) (hy0 : (0 : Int) ≤ (y0).toInt ∧ (y0).toInt ≤ 2147483647) (he0 : (1 : Int) ≤ (rd M (135 + 1) ((((0 : Int32)).toNatClampNeg))).toInt ∧ (rd M (135 + 1) ((((0 : Int32)).toNatClampNeg))).toInt ≤ 8) (hih13 : ∀ (yx1 : Int32) (yx2 : Int32) (M : Mem), OKm (w2 g) M → ((0 : Int) ≤ (yx1).toInt ∧ (yx1).toInt ≤ 2147483647) → ((0 : Int) ≤ (yx2).toInt ∧ (yx2).toInt ≤ 16) → 16 - (yx2).toInt < d13 → Sf (ih13 yx1 yx2 M) (qMI (w2 g) (0) (2147483647))) (hmu13 : 16 - (x2).toInt ≤ d13) : Sf (mX7_lastSteps_b68 135 ih13 x2 y0 M) (qMI (w2 g) (0) (2147483647)) := by
  unfold mX7_lastSteps_b68
  have g_1 := i_rng y0
  have n_2 : ((0 : Int32)).toInt = 0 := rfl
  have b_3 : (0 : Int) ≤ (rd M (135 + 1) (((0 : Int32)).toNatClampNeg)).toInt ∧ (rd M (135 + 1) (((0 : Int32)).toNatClampNeg)).toInt ≤ 8 := h_M.ri 0 0 (by decide +kernel) (by omega) (by omega)
  exact (sX7_lastSteps_b69 h_M ⟨by omega, by omega⟩ ⟨by omega, by omega⟩ ⟨by omega, by omega⟩ ⟨by omega, by omega⟩ hih13 (by omega))
set_option maxHeartbeats 2000000 in
theorem sX7_lastSteps_b13 {g : Gm} {ih13 : Int32 → Int32 → Mem → Option (Mem × Int32)} {x1 : Int32} {x2 : Int32} {M : Mem} {d13 : Nat} (h_M : OKm (w2 g) M) (hx1 : (0 : Int) ≤ (x1).toInt ∧ (x1).toInt ≤ 2147483647) (hx2 : (0 : Int) ≤ (x2).toInt ∧ (x2).toInt ≤ 16) (hih13 : ∀ (yx1 : Int32) (yx2 : Int32) (M : Mem), OKm (w2 g) M → ((0 : Int) ≤ (yx1).toInt ∧ (yx1).toInt ≤ 2147483647) → ((0 : Int) ≤ (yx2).toInt ∧ (yx2).toInt ≤ 16) → 16 - (yx2).toInt < d13 → Sf (ih13 yx1 yx2 M) (qMI (w2 g) (0) (2147483647))) (hmu13 : 16 - (x2).toInt ≤ d13) : Sf (mX7_lastSteps_b13 135 ih13 x1 x2 M) (qMI (w2 g) (0) (2147483647)) := by
  unfold mX7_lastSteps_b13
  have n_1 : ((0 : Int32)).toInt = 0 := rfl
  refine Sf.k (ok_in (by omega) (by omega)) ?_
  have n_2 : ((2 : Int32)).toInt = 2 := rfl
  have b_3 : (0 : Int) ≤ (rd M (135 + 1) (((0 : Int32)).toNatClampNeg)).toInt ∧ (rd M (135 + 1) (((0 : Int32)).toNatClampNeg)).toInt ≤ 8 := h_M.ri 0 0 (by decide +kernel) (by omega) (by omega)
  try have a_4 : (((2 : Int32) * (rd M (135 + 1) (((0 : Int32)).toNatClampNeg)))).toInt = 2 * ((rd M (135 + 1) (((0 : Int32)).toNatClampNeg))).toInt := i_mulc (by omega) (by omega) (by omega)
  refine Sf.i (fun c_5 => ?_) (fun c_5 => ?_)
  · have c_5 := i_le.mp c_5
    have z_6 : (0 : Int) ≤ (x1).toInt ∧ (x1).toInt ≤ 2147483647 := ⟨by omega, by omega⟩
    exact Sf.ok ⟨h_M, z_6⟩
  · have c_5 := i_nle c_5
    refine Sf.c (sX7_full h_M) (fun r9 p_7 => ?_)
    obtain ⟨p_7a, p_7b⟩ := p_7
    try have a_8 : ((x2 / (2 : Int32))).toInt = (x2).toInt / 2 := (i_div (by omega) (by omega)).trans (by rw [show ((2 : Int32)).toInt = 2 from rfl])
    try have a_9 : 0 < (((1 : Int32) <<< ((x2 / (2 : Int32)) &&& 31))).toInt ∧ (((1 : Int32) <<< ((x2 / (2 : Int32)) &&& 31))).toInt ≤ 128 := i_shl 7 (by decide) ⟨by omega, by omega⟩
    have n_10 : (((-1) : Int32)).toInt = -1 := rfl
    try have a_11 := i_and (a := r9) (b := (((1 : Int32) <<< ((x2 / (2 : Int32)) &&& 31)) ^^^ ((-1) : Int32))) (by omega)
    refine Sf.b (fun x3_37 e_x3_37 => ?_)
    have d_x3_37 := congrArg Int32.toInt e_x3_37
    refine Sf.k (ok_in (by omega) (by omega)) ?_
    have b_12 : (0 : Int) ≤ (rd M (135 + 15) ((x3_37).toNatClampNeg)).toInt ∧ (rd M (135 + 15) ((x3_37).toNatClampNeg)).toInt ≤ 1 := h_M.at rfl
    have n_13 : ((0 : Int32)).toInt = 0 := rfl
    refine Sf.i (fun c_14 => ?_) (fun c_14 => ?_)
    · have c_14 := i_eq.mp c_14
      have g_15 := i_rng x1
      exact (sX7_lastSteps_b68 h_M ⟨by omega, by omega⟩ ⟨by omega, by omega⟩ ⟨by omega, by omega⟩ hih13 (by omega))
    · have c_14 := i_ne c_14
      have n_16 : ((16 : Int32)).toInt = 16 := rfl
      try have a_17 : (((16 : Int32) * x3_37)).toInt = 16 * (x3_37).toInt := i_mulc (by omega) (by omega) (by omega)
      try have a_18 : ((((16 : Int32) * x3_37) + x2)).toInt = (((16 : Int32) * x3_37)).toInt + (x2).toInt := i_add (by omega) (by omega)
      refine Sf.k (ok_in (by omega) (by omega)) ?_
      have b_19 : (0 : Int) ≤ (rd M (135 + 10) (((((16 : Int32) * x3_37) + x2)).toNatClampNeg)).toInt ∧ (rd M (135 + 10) (((((16 : Int32) * x3_37) + x2)).toNatClampNeg)).toInt ≤ 1 := h_M.at rfl
      refine Sf.i (fun c_20 => ?_) (fun c_20 => ?_)
      · have c_20 := i_eq.mp c_20
        have g_21 := i_rng x1
        exact (sX7_lastSteps_b68 h_M ⟨by omega, by omega⟩ ⟨by omega, by omega⟩ ⟨by omega, by omega⟩ hih13 (by omega))
      · have c_20 := i_ne c_20
        have g_22 := i_rng x1
        try have a_23 : 0 < (((1 : Int32) <<< (x2 &&& 31))).toInt ∧ (((1 : Int32) <<< (x2 &&& 31))).toInt ≤ 32768 := i_shl 15 (by decide) ⟨by omega, by omega⟩
        exact (sX7_lastSteps_b69 h_M ⟨by omega, by omega⟩ ⟨by omega, by omega⟩ ⟨by omega, by omega⟩ ⟨by omega, by omega⟩ hih13 (by omega))
theorem sX7_lastSteps_l13_n {g : Gm}    : ∀ (n : Nat) (x1 : Int32) (x2 : Int32) (M : Mem) (h_M : OKm (w2 g) M) (hx1 : (0 : Int) ≤ (x1).toInt ∧ (x1).toInt ≤ 2147483647) (hx2 : (0 : Int) ≤ (x2).toInt ∧ (x2).toInt ≤ 16)    (hmu : 16 - (x2).toInt < n), Sf (mX7_lastSteps_l13 135 n x1 x2 M) (qMI (w2 g) (0) (2147483647)) := by
  intro n
  induction n with
  | zero => intro x1 x2 M h_M hx1 hx2 hmu; exfalso; omega
  | succ n IH => intro x1 x2 M h_M hx1 hx2 hmu; exact sX7_lastSteps_b13  h_M hx1 hx2    IH (by omega)
theorem sX7_lastSteps_l13 {g : Gm}  {x1 : Int32} {x2 : Int32} {M : Mem}  (h_M : OKm (w2 g) M) (hx1 : (0 : Int) ≤ (x1).toInt ∧ (x1).toInt ≤ 2147483647) (hx2 : (0 : Int) ≤ (x2).toInt ∧ (x2).toInt ≤ 16)    (hmu : 16 - (x2).toInt < 5000) : Sf (mX7_lastSteps_l13 135 5000 x1 x2 M) (qMI (w2 g) (0) (2147483647)) :=
  sX7_lastSteps_l13_n   5000 _ _ M h_M hx1 hx2    hmu
set_option maxHeartbeats 2000000 in
theorem sX7_mostBends_b93 {g : Gm} {ih13 : Int32 → Int32 → Mem → Option (Mem × Int32)} {x2 : Int32} {y0 : Int32} {M : Mem} {d13 : Nat} (h_M : OKm (w2 g) M) (hx2 : (0 : Int) ≤ (x2).toInt ∧ (x2).toInt ≤ 255) (hy0 : (0 : Int) ≤ (y0).toInt ∧ (y0).toInt ≤ 2147483647) (hih13 : ∀ (yx1 : Int32) (yx2 : Int32) (M : Mem), OKm (w2 g) M → ((0 : Int) ≤ (yx1).toInt ∧ (yx1).toInt ≤ 2147483647) → ((0 : Int) ≤ (yx2).toInt ∧ (yx2).toInt ≤ 256) → 256 - (yx2).toInt < d13 → Sf (ih13 yx1 yx2 M) (qMI (w2 g) (0) (2147483647))) (hmu13 : 256 - (x2).toInt ≤ d13) : Sf (mX7_mostBends_b93 135 ih13 x2 y0 M) (qMI (w2 g) (0) (2147483647)) := by
  unfold mX7_mostBends_b93
  have n_1 : ((1 : Int32)).toInt = 1 := rfl
  try have a_2 : ((x2 + (1 : Int32))).toInt = (x2).toInt + ((1 : Int32)).toInt := i_add (by omega) (by omega)
  refine Sf.b (fun x2_94 e_x2_94 => ?_)
  have d_x2_94 := congrArg Int32.toInt e_x2_94
  have g_3 := i_rng y0
  exact (hih13 _ _ _ h_M ⟨by omega, by omega⟩ ⟨by omega, by omega⟩ (by omega))
set_option maxHeartbeats 2000000 in
theorem sX7_mostBends_b67 {g : Gm} {ih13 : Int32 → Int32 → Mem → Option (Mem × Int32)} {ih26 : Int32 → Int32 → Int32 → Int32 → Mem → Option (Mem × Int32)} {x1 : Int32} {x2 : Int32} {x4 : Int32} {y0 : Int32} {y1 : Int32} {M : Mem} {d13 : Nat} {d26 : Nat} (h_M : OKm (w2 g) M) (hx1 : (0 : Int) ≤ (x1).toInt ∧ (x1).toInt ≤ 2147483647) (hx2 : (0 : Int) ≤ (x2).toInt ∧ (x2).toInt ≤ 255) (hx4 : (0 : Int) ≤ (x4).toInt ∧ (x4).toInt ≤ 7) (hy1 : (0 : Int) ≤ (y1).toInt ∧ (y1).toInt ≤ 1) (he0 : (1 : Int) ≤ (rd M (135 + 1) ((((0 : Int32)).toNatClampNeg))).toInt ∧ (rd M (135 + 1) ((((0 : Int32)).toNatClampNeg))).toInt ≤ 8) (hih13 : ∀ (yx1 : Int32) (yx2 : Int32) (M : Mem), OKm (w2 g) M → ((0 : Int) ≤ (yx1).toInt ∧ (yx1).toInt ≤ 2147483647) → ((0 : Int) ≤ (yx2).toInt ∧ (yx2).toInt ≤ 256) → 256 - (yx2).toInt < d13 → Sf (ih13 yx1 yx2 M) (qMI (w2 g) (0) (2147483647))) (hmu13 : 256 - (x2).toInt ≤ d13) (hih26 : ∀ (yx1 : Int32) (yx2 : Int32) (yx3 : Int32) (yx4 : Int32) (M : Mem), OKm (w2 g) M → ((0 : Int) ≤ (yx1).toInt ∧ (yx1).toInt ≤ 2147483647) → ((0 : Int) ≤ (yx2).toInt ∧ (yx2).toInt ≤ 255) → ((0 : Int) ≤ (yx4).toInt ∧ (yx4).toInt ≤ 8) → (256 - (yx2).toInt ≤ d13) → 8 - (yx4).toInt < d26 → Sf (ih26 yx1 yx2 yx3 yx4 M) (qMI (w2 g) (0) (2147483647))) (hmu26 : 8 - (x4).toInt ≤ d26) : Sf (mX7_mostBends_b67 135 ih13 ih26 x1 x2 x4 y0 y1 M) (qMI (w2 g) (0) (2147483647)) := by
  unfold mX7_mostBends_b67
  refine Sf.b (fun x3_68 e_x3_68 => ?_)
  have d_x3_68 := congrArg Int32.toInt e_x3_68
  have n_1 : ((1 : Int32)).toInt = 1 := rfl
  try have a_2 : ((x4 + (1 : Int32))).toInt = (x4).toInt + ((1 : Int32)).toInt := i_add (by omega) (by omega)
  refine Sf.b (fun x4_69 e_x4_69 => ?_)
  have d_x4_69 := congrArg Int32.toInt e_x4_69
  have g_3 := i_rng x1
  exact (hih26 _ _ _ _ _ h_M ⟨by omega, by omega⟩ ⟨by omega, by omega⟩ ⟨by omega, by omega⟩ (by omega) (by omega))
set_option maxHeartbeats 2000000 in
theorem sX7_mostBends_b66 {g : Gm} {ih13 : Int32 → Int32 → Mem → Option (Mem × Int32)} {ih26 : Int32 → Int32 → Int32 → Int32 → Mem → Option (Mem × Int32)} {x1 : Int32} {x2 : Int32} {x4 : Int32} {y0 : Int32} {M : Mem} {d13 : Nat} {d26 : Nat} (h_M : OKm (w2 g) M) (hx1 : (0 : Int) ≤ (x1).toInt ∧ (x1).toInt ≤ 2147483647) (hx2 : (0 : Int) ≤ (x2).toInt ∧ (x2).toInt ≤ 255) (hx4 : (0 : Int) ≤ (x4).toInt ∧ (x4).toInt ≤ 7) (he0 : (1 : Int) ≤ (rd M (135 + 1) ((((0 : Int32)).toNatClampNeg))).toInt ∧ (rd M (135 + 1) ((((0 : Int32)).toNatClampNeg))).toInt ≤ 8) (hih13 : ∀ (yx1 : Int32) (yx2 : Int32) (M : Mem), OKm (w2 g) M → ((0 : Int) ≤ (yx1).toInt ∧ (yx1).toInt ≤ 2147483647) → ((0 : Int) ≤ (yx2).toInt ∧ (yx2).toInt ≤ 256) → 256 - (yx2).toInt < d13 → Sf (ih13 yx1 yx2 M) (qMI (w2 g) (0) (2147483647))) (hmu13 : 256 - (x2).toInt ≤ d13) (hih26 : ∀ (yx1 : Int32) (yx2 : Int32) (yx3 : Int32) (yx4 : Int32) (M : Mem), OKm (w2 g) M → ((0 : Int) ≤ (yx1).toInt ∧ (yx1).toInt ≤ 2147483647) → ((0 : Int) ≤ (yx2).toInt ∧ (yx2).toInt ≤ 255) → ((0 : Int) ≤ (yx4).toInt ∧ (yx4).toInt ≤ 8) → (256 - (yx2).toInt ≤ d13) → 8 - (yx4).toInt < d26 → Sf (ih26 yx1 yx2 yx3 yx4 M) (qMI (w2 g) (0) (2147483647))) (hmu26 : 8 - (x4).toInt ≤ d26) : Sf (mX7_mostBends_b66 135 ih13 ih26 x1 x2 x4 y0 M) (qMI (w2 g) (0) (2147483647)) := by
  unfold mX7_mostBends_b66
  have g_1 := i_rng x1
  have n_2 : ((0 : Int32)).toInt = 0 := rfl
  have b_3 : (0 : Int) ≤ (rd M (135 + 1) (((0 : Int32)).toNatClampNeg)).toInt ∧ (rd M (135 + 1) (((0 : Int32)).toNatClampNeg)).toInt ≤ 8 := h_M.ri 0 0 (by decide +kernel) (by omega) (by omega)
  exact (sX7_mostBends_b67 h_M ⟨by omega, by omega⟩ ⟨by omega, by omega⟩ ⟨by omega, by omega⟩ ⟨by omega, by omega⟩ ⟨by omega, by omega⟩ hih13 (by omega) hih26 (by omega))
set_option maxHeartbeats 2000000 in
theorem sX7_mostBends_b26 {g : Gm} {ih13 : Int32 → Int32 → Mem → Option (Mem × Int32)} {ih26 : Int32 → Int32 → Int32 → Int32 → Mem → Option (Mem × Int32)} {x1 : Int32} {x2 : Int32} {x3 : Int32} {x4 : Int32} {M : Mem} {d13 : Nat} {d26 : Nat} (h_M : OKm (w2 g) M) (hx1 : (0 : Int) ≤ (x1).toInt ∧ (x1).toInt ≤ 2147483647) (hx2 : (0 : Int) ≤ (x2).toInt ∧ (x2).toInt ≤ 255) (hx4 : (0 : Int) ≤ (x4).toInt ∧ (x4).toInt ≤ 8) (hih13 : ∀ (yx1 : Int32) (yx2 : Int32) (M : Mem), OKm (w2 g) M → ((0 : Int) ≤ (yx1).toInt ∧ (yx1).toInt ≤ 2147483647) → ((0 : Int) ≤ (yx2).toInt ∧ (yx2).toInt ≤ 256) → 256 - (yx2).toInt < d13 → Sf (ih13 yx1 yx2 M) (qMI (w2 g) (0) (2147483647))) (hmu13 : 256 - (x2).toInt ≤ d13) (hih26 : ∀ (yx1 : Int32) (yx2 : Int32) (yx3 : Int32) (yx4 : Int32) (M : Mem), OKm (w2 g) M → ((0 : Int) ≤ (yx1).toInt ∧ (yx1).toInt ≤ 2147483647) → ((0 : Int) ≤ (yx2).toInt ∧ (yx2).toInt ≤ 255) → ((0 : Int) ≤ (yx4).toInt ∧ (yx4).toInt ≤ 8) → (256 - (yx2).toInt ≤ d13) → 8 - (yx4).toInt < d26 → Sf (ih26 yx1 yx2 yx3 yx4 M) (qMI (w2 g) (0) (2147483647))) (hmu26 : 8 - (x4).toInt ≤ d26) : Sf (mX7_mostBends_b26 135 ih13 ih26 x1 x2 x3 x4 M) (qMI (w2 g) (0) (2147483647)) := by
  unfold mX7_mostBends_b26
  have n_1 : ((0 : Int32)).toInt = 0 := rfl
  refine Sf.k (ok_in (by omega) (by omega)) ?_
  have b_2 : (0 : Int) ≤ (rd M (135 + 1) (((0 : Int32)).toNatClampNeg)).toInt ∧ (rd M (135 + 1) (((0 : Int32)).toNatClampNeg)).toInt ≤ 8 := h_M.ri 0 0 (by decide +kernel) (by omega) (by omega)
  refine Sf.i (fun c_3 => ?_) (fun c_3 => ?_)
  · have c_3 := i_le.mp c_3
    refine Sf.k (ok_in (by omega) (by omega)) ?_
    have b_4 : (0 : Int) ≤ (rd M (135 + 15) ((x2).toNatClampNeg)).toInt ∧ (rd M (135 + 15) ((x2).toNatClampNeg)).toInt ≤ 1 := h_M.at rfl
    have n_5 : ((0 : Int32)).toInt = 0 := rfl
    refine Sf.i (fun c_6 => ?_) (fun c_6 => ?_)
    · have c_6 := i_eq.mp c_6
      have g_7 := i_rng x1
      exact (sX7_mostBends_b93 h_M ⟨by omega, by omega⟩ ⟨by omega, by omega⟩ hih13 (by omega))
    · have c_6 := i_ne c_6
      have m_8 := i_max (a := x1) (b := x3)
      have g_9 := i_rng (imax x1 x3)
      exact (sX7_mostBends_b93 h_M ⟨by omega, by omega⟩ ⟨by omega, by omega⟩ hih13 (by omega))
  · have c_3 := i_nle c_3
    refine Sf.c (sX7_has h_M ⟨by omega, by omega⟩ ⟨by omega, by omega⟩) (fun r16 p_10 => ?_)
    obtain ⟨p_10a, p_10b⟩ := p_10
    have n_11 : ((0 : Int32)).toInt = 0 := rfl
    refine Sf.i (fun c_12 => ?_) (fun c_12 => ?_)
    · have c_12 := i_eq.mp c_12
      have g_13 := i_rng x1
      exact (sX7_mostBends_b66 h_M ⟨by omega, by omega⟩ ⟨by omega, by omega⟩ ⟨by omega, by omega⟩ ⟨by omega, by omega⟩ hih13 (by omega) hih26 (by omega))
    · have c_12 := i_ne c_12
      have n_14 : ((52 : Int32)).toInt = 52 := rfl
      refine Sf.k (ok_in (by omega) (by omega)) ?_
      have b_15 : (0 : Int) ≤ (rd M (135 + 1) (((52 : Int32)).toNatClampNeg)).toInt ∧ (rd M (135 + 1) (((52 : Int32)).toNatClampNeg)).toInt ≤ 255 := h_M.ri 52 52 (by decide +kernel) (by omega) (by omega)
      refine Sf.c (sX7_has h_M ⟨by omega, by omega⟩ ⟨by omega, by omega⟩) (fun r23 p_16 => ?_)
      obtain ⟨p_16a, p_16b⟩ := p_16
      refine Sf.i (fun c_17 => ?_) (fun c_17 => ?_)
      · have c_17 := i_eq.mp c_17
        have g_18 := i_rng x1
        have n_19 : ((1 : Int32)).toInt = 1 := rfl
        exact (sX7_mostBends_b67 h_M ⟨by omega, by omega⟩ ⟨by omega, by omega⟩ ⟨by omega, by omega⟩ ⟨by omega, by omega⟩ ⟨by omega, by omega⟩ hih13 (by omega) hih26 (by omega))
      · have c_17 := i_ne c_17
        have g_20 := i_rng x1
        exact (sX7_mostBends_b66 h_M ⟨by omega, by omega⟩ ⟨by omega, by omega⟩ ⟨by omega, by omega⟩ ⟨by omega, by omega⟩ hih13 (by omega) hih26 (by omega))
theorem sX7_mostBends_l26_n {g : Gm}  {ih13 : Int32 → Int32 → Mem → Option (Mem × Int32)} {d13 : Nat} (hih13 : ∀ (yx1 : Int32) (yx2 : Int32) (M : Mem), OKm (w2 g) M → ((0 : Int) ≤ (yx1).toInt ∧ (yx1).toInt ≤ 2147483647) → ((0 : Int) ≤ (yx2).toInt ∧ (yx2).toInt ≤ 256) → 256 - (yx2).toInt < d13 → Sf (ih13 yx1 yx2 M) (qMI (w2 g) (0) (2147483647))) : ∀ (n : Nat) (x1 : Int32) (x2 : Int32) (x3 : Int32) (x4 : Int32) (M : Mem) (h_M : OKm (w2 g) M) (hx1 : (0 : Int) ≤ (x1).toInt ∧ (x1).toInt ≤ 2147483647) (hx2 : (0 : Int) ≤ (x2).toInt ∧ (x2).toInt ≤ 255) (hx4 : (0 : Int) ≤ (x4).toInt ∧ (x4).toInt ≤ 8)   (hmu13 : 256 - (x2).toInt ≤ d13) (hmu : 8 - (x4).toInt < n), Sf (mX7_mostBends_l26 135 ih13 n x1 x2 x3 x4 M) (qMI (w2 g) (0) (2147483647)) := by
  intro n
  induction n with
  | zero => intro x1 x2 x3 x4 M h_M hx1 hx2 hx4 hmu13 hmu; exfalso; omega
  | succ n IH => intro x1 x2 x3 x4 M h_M hx1 hx2 hx4 hmu13 hmu; exact sX7_mostBends_b26  h_M hx1 hx2 hx4   hih13 hmu13 IH (by omega)
theorem sX7_mostBends_l26 {g : Gm}  {x1 : Int32} {x2 : Int32} {x3 : Int32} {x4 : Int32} {M : Mem} {ih13 : Int32 → Int32 → Mem → Option (Mem × Int32)} {d13 : Nat} (h_M : OKm (w2 g) M) (hx1 : (0 : Int) ≤ (x1).toInt ∧ (x1).toInt ≤ 2147483647) (hx2 : (0 : Int) ≤ (x2).toInt ∧ (x2).toInt ≤ 255) (hx4 : (0 : Int) ≤ (x4).toInt ∧ (x4).toInt ≤ 8)   (hih13 : ∀ (yx1 : Int32) (yx2 : Int32) (M : Mem), OKm (w2 g) M → ((0 : Int) ≤ (yx1).toInt ∧ (yx1).toInt ≤ 2147483647) → ((0 : Int) ≤ (yx2).toInt ∧ (yx2).toInt ≤ 256) → 256 - (yx2).toInt < d13 → Sf (ih13 yx1 yx2 M) (qMI (w2 g) (0) (2147483647))) (hmu13 : 256 - (x2).toInt ≤ d13) (hmu : 8 - (x4).toInt < 5000) : Sf (mX7_mostBends_l26 135 ih13 5000 x1 x2 x3 x4 M) (qMI (w2 g) (0) (2147483647)) :=
  sX7_mostBends_l26_n  hih13 5000 _ _ _ _ M h_M hx1 hx2 hx4   hmu13 hmu
set_option maxHeartbeats 2000000 in
theorem sX7_mostBends_b13 {g : Gm} {ih13 : Int32 → Int32 → Mem → Option (Mem × Int32)} {x1 : Int32} {x2 : Int32} {M : Mem} {d13 : Nat} (h_M : OKm (w2 g) M) (hx1 : (0 : Int) ≤ (x1).toInt ∧ (x1).toInt ≤ 2147483647) (hx2 : (0 : Int) ≤ (x2).toInt ∧ (x2).toInt ≤ 256) (hih13 : ∀ (yx1 : Int32) (yx2 : Int32) (M : Mem), OKm (w2 g) M → ((0 : Int) ≤ (yx1).toInt ∧ (yx1).toInt ≤ 2147483647) → ((0 : Int) ≤ (yx2).toInt ∧ (yx2).toInt ≤ 256) → 256 - (yx2).toInt < d13 → Sf (ih13 yx1 yx2 M) (qMI (w2 g) (0) (2147483647))) (hmu13 : 256 - (x2).toInt ≤ d13) : Sf (mX7_mostBends_b13 135 ih13 x1 x2 M) (qMI (w2 g) (0) (2147483647)) := by
  unfold mX7_mostBends_b13
  refine Sf.c (sX7_full h_M) (fun r7 p_1 => ?_)
  obtain ⟨p_1a, p_1b⟩ := p_1
  refine Sf.i (fun c_2 => ?_) (fun c_2 => ?_)
  · have c_2 := i_lt.mp c_2
    have z_3 : (0 : Int) ≤ (x1).toInt ∧ (x1).toInt ≤ 2147483647 := ⟨by omega, by omega⟩
    exact Sf.ok ⟨h_M, z_3⟩
  · have c_2 := i_nlt c_2
    have g_4 := i_rng x1
    have n_5 : ((0 : Int32)).toInt = 0 := rfl
    exact (sX7_mostBends_l26 h_M ⟨by omega, by omega⟩ ⟨by omega, by omega⟩ ⟨by omega, by omega⟩ hih13 (by omega) (by omega))
theorem sX7_mostBends_l13_n {g : Gm}    : ∀ (n : Nat) (x1 : Int32) (x2 : Int32) (M : Mem) (h_M : OKm (w2 g) M) (hx1 : (0 : Int) ≤ (x1).toInt ∧ (x1).toInt ≤ 2147483647) (hx2 : (0 : Int) ≤ (x2).toInt ∧ (x2).toInt ≤ 256)    (hmu : 256 - (x2).toInt < n), Sf (mX7_mostBends_l13 135 n x1 x2 M) (qMI (w2 g) (0) (2147483647)) := by
  intro n
  induction n with
  | zero => intro x1 x2 M h_M hx1 hx2 hmu; exfalso; omega
  | succ n IH => intro x1 x2 M h_M hx1 hx2 hmu; exact sX7_mostBends_b13  h_M hx1 hx2    IH (by omega)
theorem sX7_mostBends_l13 {g : Gm}  {x1 : Int32} {x2 : Int32} {M : Mem}  (h_M : OKm (w2 g) M) (hx1 : (0 : Int) ≤ (x1).toInt ∧ (x1).toInt ≤ 2147483647) (hx2 : (0 : Int) ≤ (x2).toInt ∧ (x2).toInt ≤ 256)    (hmu : 256 - (x2).toInt < 5000) : Sf (mX7_mostBends_l13 135 5000 x1 x2 M) (qMI (w2 g) (0) (2147483647)) :=
  sX7_mostBends_l13_n   5000 _ _ M h_M hx1 hx2    hmu
end
/-! part 59e.plan -/
section
/-! the reference's rows, orders, plans -/
def Row (n m : Nat) (f : Nat → Int32) : Prop := f 0 = Int32.ofNat n ∧ n < 9 ∧ f 52 = Int32.ofNat m ∧ m < 2 ^ n ∧ 1 ≤ (f 36).toInt ∧ ∃ k : Nat, f 53 = Int32.ofNat k ∧ k + cntz m n ≤ n ∧ ∀ j, k = j + 1 → ∃ b, b < n ∧ f (54 + 4 * j) = Int32.ofNat b ∧ m.testBit b = true
section PE
variable {g : Gm} {M M' : Mem} {n m a c l : Nat}
theorem Row.nm (h : Row n m (rd M 136)) : NM n m M := ⟨h.1, h.2.1, h.2.2.1, h.2.2.2.1⟩
theorem Row.of {f f' : Nat → Int32} (h : Row n m f) (e : ∀ j, f' j = f j) : Row n m f' := by
  have : f' = f := funext e
  rw [this]; exact h
/-- what stays where tables may be written -/
def Keep2 (M M' : Mem) : Prop := ∀ k j, ¬ W1 k j → ¬ (145 ≤ k ∧ k ≤ 150) → rd M' k j = rd M k j
theorem Keep.k2 (h : Keep M M') : Keep2 M M' := fun k j h1 _ => h.1 k j h1
theorem Keep2.trans {M'' : Mem} (h : Keep2 M M') (h' : Keep2 M' M'') : Keep2 M M'' := fun k j h1 h2 => (h' k j h1 h2).trans (h k j h1 h2)
theorem okm_kept2 (h : OKm (w2 (gAll M)) M') : Keep2 M M' := by
  intro k j hw h5
  have h2 := h.2.1 k j
  have hw2 : ¬ ((k = 135 ∧ (j = 5 ∨ j = 21 ∨ j = 22)) ∨ (141 ≤ k ∧ k ≤ 144)) := hw
  unfold bxm at h2
  rw [if_neg hw2] at h2
  have h3 : (if 145 ≤ k ∧ k ≤ 150 then stdM k j else (gAll M).1 k j).1 ≤ (rd M' k j).toInt ∧ (rd M' k j).toInt ≤ (if 145 ≤ k ∧ k ≤ 150 then stdM k j else (gAll M).1 k j).2 := h2
  rw [if_neg h5] at h3
  have h4 : (rd M k j).toInt ≤ (rd M' k j).toInt ∧ (rd M' k j).toInt ≤ (rd M k j).toInt := h3
  exact i_eq.mpr (by omega)
theorem okm_of_kept2 (h : OKm (w2 g) M) (h' : OKm (w2 (gAll M)) M') : OKm (w2 g) M' := by
  have hk := okm_kept2 h'
  refine ⟨h.1, fun k j => ?_, fun _ _ => trivial⟩
  have h2 := h.2.1 k j
  unfold bxm at h2 ⊢
  by_cases c : (k = 135 ∧ (j = 5 ∨ j = 21 ∨ j = 22)) ∨ (141 ≤ k ∧ k ≤ 144)
  · rw [if_pos c]; exact i_rng _
  · rw [if_neg c] at h2 ⊢
    by_cases c5 : 145 ≤ k ∧ k ≤ 150
    · show (if 145 ≤ k ∧ k ≤ 150 then stdM k j else g.1 k j).1 ≤ _ ∧ _ ≤ (if 145 ≤ k ∧ k ≤ 150 then stdM k j else g.1 k j).2
      rw [if_pos c5]; exact h'.std k j
    · rw [hk k j c c5]; exact h2
theorem fr2 {ρ : Type} {x : Option (Mem × ρ)} {R : Mem × ρ → Prop} (h : OKm g M) (hx : ∀ g', OKm g' M → Sf x (fun q => OKm (w2 g') q.1 ∧ R q)) : Sf x (fun q => OKm (w2 g) q.1 ∧ Keep2 M q.1 ∧ R q) := by
  obtain ⟨y, e, h1, h2⟩ := hx (gAll M) h.all
  exact ⟨y, e, okm_of_kept2 h.w2 h1, okm_kept2 h1, h2⟩
theorem NM.keep2 (h : NM n m M) (hk : Keep2 M M') : NM n m M' := by
  refine ⟨(hk 136 0 ?_ ?_).trans h.1, h.2.1, (hk 136 52 ?_ ?_).trans h.2.2.1, h.2.2.2⟩ <;> first | (unfold W1; omega) | omega
theorem Row.keep2 (h : Row n m (rd M 136)) (hk : Keep2 M M') : Row n m (rd M' 136) := h.of (fun j => hk 136 j (by unfold W1; omega) (by omega))
theorem pl_isOrder (hN : NM n m M) : Sf (mX7_isOrder 135 M) (fun r => zor r (0 < mn M m)) := by
  have hp := z_pow n hN.2.1
  have hm := hN.2.2.2
  unfold mX7_isOrder
  show Sf (chk (okb (52 : Int32) 86) (chk (okb (rd M 136 52) 256) (ite2 ((lg_cmp (rl M 147 ((rd M 136 52)).toNatClampNeg) (0 : Int64)) ≤ 0) (some (0 : Int32)) (some (1 : Int32))))) _
  rw [hN.2.2.1, c_of (by omega)]
  refine Sf.k (by decide) (Sf.k (ok_in (by rw [t_of (by omega)]; omega) (by rw [t_of (by omega)]; omega)) (Sf.i (fun _ => Sf.ok ⟨by decide, Or.inl rfl⟩) (fun c => Sf.ok ⟨by decide, Or.inr ?_⟩)))
  have c := i_nle c
  exact b_cmp.2.mp (i_lt.mpr c)
theorem lg_pos {x : Int64} : ¬ (lg_cmp x 0 ≤ 0) ↔ 0 < x.toInt := by
  constructor
  · intro c; exact b_cmp.2.mp (i_lt.mpr (i_nle c))
  · intro c h
    have h1 := i_lt.mp (b_cmp.2.mpr (show (0 : Int64).toInt < x.toInt from c))
    have h2 := i_le.mp h
    omega
theorem Ald.keep (h : Ald n m M 0) (hP : Pl g n m M) (hk : Keep M M') : Ald n m M' 0 := by
  intro b h1 h2 h3 l hv
  have r : ∀ k, k = 136 ∨ k = 145 ∨ k = 146 ∨ k = 148 → ∀ j, rd M' k j = rd M k j := fun k hk' j => hk.1 k j (by unfold W1; omega)
  rw [r 148 (by omega)]
  exact (h b h1 h2 h3 l hv).of (hP.2.2 b h1 h2 h3) h2 hP.2.1.2.1 (r 145 (by omega)) (hk.2 147) (cst_same (r 136 (by omega)) (r 146 (by omega))) (fun b' c' _ _ => r 148 (by omega) _)
/-- the best step is found -/
theorem pl_best_l (hP : Pl g n m M) (hA : Ald n m M 0) (ha : a < 2 ^ n) (hb : a &&& m = m) (hl : VL n a l) {c0 : Nat} (h0 : c0 < 2 * n) (hq : ¬ rd M 145 (16 * a + c0) = 0) (hm : 0 < mn M (a ||| 2 ^ (c0 / 2))) {v : Int32} (hv : cstO M (Int32.ofNat a) (Int32.ofNat l) (Int32.ofNat c0) = some v) (hv2 : v.toInt + (rd M 148 (17 * (a ||| 2 ^ (c0 / 2)) + c0)).toInt = (rd M 148 (17 * a + l)).toInt) : ∀ (fuel c : Nat), c ≤ c0 → c0 - c < fuel → Sf (mX7_bestStep_l2 135 M fuel (Int32.ofNat a) (Int32.ofNat l) (Int32.ofNat c)) (fun r => ∃ c, c < 2 * n ∧ r = Int32.ofNat c ∧ ¬ rd M 145 (16 * a + c) = 0 ∧ 0 < mn M (a ||| 2 ^ (c / 2))) := by
  intro fuel
  induction fuel with
  | zero => intro c _ h; exfalso; omega
  | succ fuel IH =>
    intro c hc hf
    have hN := hP.2.1
    have hn := hN.2.1
    have hp := z_pow n hn
    have hl16 : l ≤ 16 := by rcases hl with e | ⟨e, _⟩ <;> omega
    have G := hP.2.2 a (by omega) ha hb
    show Sf (mX7_bestStep_b2 135 M (mX7_bestStep_l2 135 M fuel) (Int32.ofNat a) (Int32.ofNat l) (Int32.ofNat c)) _
    unfold mX7_bestStep_b2
    have nx : c ≠ c0 → Sf (mX7_bestStep_b125 135 M (mX7_bestStep_l2 135 M fuel) (Int32.ofNat a) (Int32.ofNat l) (Int32.ofNat c)) (fun r => ∃ c, c < 2 * n ∧ r = Int32.ofNat c ∧ ¬ rd M 145 (16 * a + c) = 0 ∧ 0 < mn M (a ||| 2 ^ (c / 2))) := by
      intro hne
      unfold mX7_bestStep_b125
      refine Sf.b (fun x ex => ?_)
      have e : x = Int32.ofNat (c + 1) := by rw [ex]; exact (Int32.ofNat_add c 1).symm
      rw [e]
      exact IH (c + 1) (by omega) (by omega)
    refine Sf.k (by decide) (Sf.i (fun cc => ?_) (fun cc => Sf.b (fun x4 e4 => ?_)))
    · have cc := i_le.mp cc
      rw [n2_of hN, t_of (by omega)] at cc
      exfalso; omega
    · rw [f_half c (by omega), f_or a (by omega) (c / 2) (by omega)] at e4
      subst e4
      have i16 : okb ((16 : Int32) * Int32.ofNat a + Int32.ofNat c) 4096 = true := ok_in (by rw [ix16 (by omega) (by omega)]; omega) (by rw [ix16 (by omega) (by omega)]; omega)
      refine Sf.k i16 ?_
      rw [ix16c (by omega) (by omega)]
      refine Sf.i (fun q => nx (fun e => hq (by rw [← e]; exact q))) (fun q => ?_)
      have q : ¬ rd M 145 (16 * a + c) = 0 := q
      have ht := G.2.2.1 c (by omega) q
      have hz := z_set n hn a ha (c / 2) (by omega) ht
      rw [c_of (a := a ||| 2 ^ (c / 2)) (by omega)]
      refine Sf.k (ok_in (by rw [t_of (by omega)]; omega) (by rw [t_of (by omega)]; omega)) (Sf.i (fun c1 => nx (fun e => ?_)) (fun c1 => ?_))
      · subst e
        exact lg_pos.mpr hm c1
      · have hmn : 0 < mn M (a ||| 2 ^ (c / 2)) := lg_pos.mp c1
        have b92 : ∀ w : Int32, cstO M (Int32.ofNat a) (Int32.ofNat l) (Int32.ofNat c) = some w → 0 ≤ w.toInt ∧ w.toInt ≤ 297 → Sf (mX7_bestStep_b92 135 M (mX7_bestStep_l2 135 M fuel) (Int32.ofNat a) (Int32.ofNat l) (Int32.ofNat c) (Int32.ofNat (a ||| 2 ^ (c / 2))) w) (fun r => ∃ c, c < 2 * n ∧ r = Int32.ofNat c ∧ ¬ rd M 145 (16 * a + c) = 0 ∧ 0 < mn M (a ||| 2 ^ (c / 2))) := by
          intro w hw hw2
          unfold mX7_bestStep_b92
          have i8 : okb ((17 : Int32) * Int32.ofNat (a ||| 2 ^ (c / 2)) + Int32.ofNat c) 4352 = true := ok_in (by rw [ix17 (by omega) (by omega)]; omega) (by rw [ix17 (by omega) (by omega)]; omega)
          have i9 : okb ((17 : Int32) * Int32.ofNat a + Int32.ofNat l) 4352 = true := ok_in (by rw [ix17 (by omega) (by omega)]; omega) (by rw [ix17 (by omega) (by omega)]; omega)
          refine Sf.k i8 (Sf.k i9 (Sf.i (fun _ => Sf.ok ⟨c, by omega, rfl, q, hmn⟩) (fun c2 => nx (fun e => c2 ?_))))
          subst e
          rw [ix17c (by omega) (by omega), ix17c (by omega) (by omega)]
          rw [hv] at hw
          cases hw
          have hz8 := (z_full n hn (a ||| 2 ^ (c / 2)) hz.2.2.1).1
          have hL := ((hA (a ||| 2 ^ (c / 2)) (by omega) hz.2.2.1 (z_sup hb) c (Or.inr ⟨by omega, hz.2.2.2⟩)).1 hmn).1
          have es := i_add (a := v) (b := rd M 148 (17 * (a ||| 2 ^ (c / 2)) + c)) (by omega) (by omega)
          exact i_eq.mpr (es.trans hv2)
        obtain ⟨w, ew, hw⟩ := cst_ok (a := a) (l := l) (c := c) hP.1 (by omega) hl16 (by omega)
        have ew0 := ew
        unfold cstO at ew
        refine Sf.i (fun e => ?_) (fun e => ?_)
        · have e2 := ite_t e ew
          cases e2
          exact b92 0 ew0 hw
        · have e2 := ite_f e ew
          obtain ⟨r22, e22, e3⟩ := cap_s e2
          rw [e22]
          show Sf (chk (okb ((16 : Int32) * Int32.ofNat a + Int32.ofNat c) 4096) _) _
          refine Sf.k i16 ?_
          rw [ix16c (by omega) (by omega)] at e3
          rw [e3]
          exact b92 w ew0 hw
theorem pl_best (hP : Pl g n m M) (hA : Ald n m M 0) (ha : a < 2 ^ n) (hb : a &&& m = m) (hl : VL n a l) (h0 : 0 < mn M a) (hf : a ≠ 2 ^ n - 1) : Sf (mX7_bestStep 135 (Int32.ofNat a) (Int32.ofNat l) M) (fun r => ∃ c, c < 2 * n ∧ r = Int32.ofNat c ∧ ¬ rd M 145 (16 * a + c) = 0 ∧ 0 < mn M (a ||| 2 ^ (c / 2))) := by
  have hn := hP.2.1.2.1
  obtain ⟨c, hc, q1, q2, v, q3, q4⟩ := ((hA a (by omega) ha hb l hl).1 h0).2 hf
  unfold mX7_bestStep
  exact pl_best_l hP hA ha hb hl hc q1 q2 q3 q4 5000 0 (by omega) (by omega)
/-- how many bends aren't made -/
theorem pl_unmade (h : OKm g M) (hN : NM n m M) : Sf (mX7_unmade 135 M) (fun r => r.toInt = (cntz m n : Int)) := by
  have hn := hN.2.1
  have hp := z_pow n hn
  have hm := hN.2.2.2
  have key : ∀ (fuel b : Nat) (x : Int32), x.toInt = (cntz m b : Int) → b ≤ n → n - b < fuel → Sf (mX7_unmade_l4 135 M fuel x (Int32.ofNat b)) (fun r => r.toInt = (cntz m n : Int)) := by
    intro fuel
    induction fuel with
    | zero => intro b x _ _ h; exfalso; omega
    | succ fuel IH =>
      intro b x hx hb hf
      have hcb : ∀ b, cntz m b ≤ b := by
        intro b
        induction b with
        | zero => exact Nat.le_refl _
        | succ b ih => show cntz m b + _ ≤ _; split <;> omega
      have := hcb b
      show Sf (mX7_unmade_b4 135 M (mX7_unmade_l4 135 M fuel) x (Int32.ofNat b)) _
      unfold mX7_unmade_b4
      show Sf (chk (okb (0 : Int32) 86) (ite2 (rd M 136 0 ≤ Int32.ofNat b) (some x) (chk (okb (52 : Int32) 86) (cap (mX7_has (rd M 136 52) (Int32.ofNat b) M) (fun r5 => ite2 (r5 = 0) (mX7_unmade_b34 135 M (mX7_unmade_l4 135 M fuel) (Int32.ofNat b) x (1 : Int32)) (mX7_unmade_b34 135 M (mX7_unmade_l4 135 M fuel) (Int32.ofNat b) x (0 : Int32))))))) _
      rw [hN.1, hN.2.2.1]
      refine Sf.k (by decide) (Sf.i (fun c => ?_) (fun c => Sf.k (by decide) ?_))
      · have c := i_le.mp c
        rw [t_of (by omega), t_of (by omega)] at c
        have : b = n := by omega
        subst this
        exact Sf.ok hx
      · have c := i_nle c
        rw [t_of (by omega), t_of (by omega)] at c
        have nx : ∀ y : Int32, y.toInt = (if m.testBit b then 0 else 1) → Sf (mX7_unmade_b34 135 M (mX7_unmade_l4 135 M fuel) (Int32.ofNat b) x y) (fun r => r.toInt = (cntz m n : Int)) := by
          intro y hy
          unfold mX7_unmade_b34
          refine Sf.b (fun x1 e1 => Sf.b (fun x2 e2 => ?_))
          have e : x2 = Int32.ofNat (b + 1) := by rw [e2]; exact (Int32.ofNat_add b 1).symm
          rw [e]
          refine IH (b + 1) x1 ?_ (by omega) (by omega)
          have hy2 : 0 ≤ y.toInt ∧ y.toInt ≤ 1 := by rw [hy]; split <;> omega
          rw [e1, i_add (by omega) (by omega), hx, hy]
          show _ = ((cntz m b + (if m.testBit b then 0 else 1) : Nat) : Int)
          split <;> omega
        unfold mX7_has
        by_cases t : m.testBit b = true
        · have t2 := (f_has m (by omega) b (by omega)).mpr t
          refine Sf.c (Q := fun r => r = 1) ⟨1, by unfold ite2; rw [if_pos t2], rfl⟩ (fun r er => ?_)
          subst er
          exact Sf.i (fun q => absurd q (by decide)) (fun _ => nx 0 (by rw [if_pos t]; rfl))
        · have t2 := mt (f_has m (by omega) b (by omega)).mp t
          refine Sf.c (Q := fun r => r = 0) ⟨0, by unfold ite2; rw [if_neg t2], rfl⟩ (fun r er => ?_)
          subst er
          exact Sf.i (fun _ => nx 1 (by rw [if_neg t]; rfl)) (fun q => absurd rfl q)
  unfold mX7_unmade
  exact key 5000 0 0 rfl (by omega) (by omega)
theorem pl_last (h : OKm g M) (hR : Row n m (rd M 136)) : Sf (mX7_lastNow 135 M) (fun r => ∃ l, r = Int32.ofNat l ∧ VL n m l) := by
  obtain ⟨h0, hn, h52, hm, _, k, h53, hk, hlast⟩ := hR
  unfold mX7_lastNow
  show Sf (chk (okb (53 : Int32) 86) (ite2 (rd M 136 53 = 0) (some (16 : Int32)) (chk (okb (53 : Int32) 86) (cap (mX7_stepOf 135 (rd M 136 53 - (1 : Int32)) (0 : Int32) M) (fun r5 => chk (okb (53 : Int32) 86) (cap (mX7_stepOf 135 (rd M 136 53 - (1 : Int32)) (1 : Int32) M) (fun r9 => some (((2 : Int32) * r5) + r9)))))))) _
  rw [h53]
  refine Sf.k (by decide) (Sf.i (fun _ => Sf.ok ⟨16, rfl, Or.inl rfl⟩) (fun c => Sf.k (by decide) ?_))
  have hk0 : k ≠ 0 := fun e => c (by rw [e]; rfl)
  obtain ⟨j, rfl⟩ : ∃ j, k = j + 1 := ⟨k - 1, by omega⟩
  obtain ⟨b, hb, e54, ht⟩ := hlast j rfl
  have ej : Int32.ofNat (j + 1) - (1 : Int32) = Int32.ofNat j := by
    apply i_eq.mpr
    rw [i_sub (by rw [t_of (by omega), show ((1 : Int32)).toInt = 1 from rfl]; omega) (by rw [t_of (by omega), show ((1 : Int32)).toInt = 1 from rfl]; omega), t_of (by omega), t_of (by omega), show ((1 : Int32)).toInt = 1 from rfl]
    omega
  rw [ej]
  have tj : (Int32.ofNat j).toInt = (j : Int) := t_of (by omega)
  refine Sf.c (sX7_stepOfx (x1 := Int32.ofNat j) (x2 := 0) (by omega) (by decide)) (fun r5 e5 => Sf.k (by decide) (Sf.c (sX7_stepOf1 (x1 := Int32.ofNat j) h (by omega)) (fun r9 p9 => Sf.ok ?_)))
  have e5' : r5 = Int32.ofNat b := by
    rw [e5, tj, ← e54]
    congr 1
  have t5 : r5.toInt = (b : Int) := by rw [e5', t_of (by omega)]
  obtain ⟨p9a, p9b⟩ := p9
  refine ⟨2 * b + r9.toInt.toNat, ?_, Or.inr ⟨by omega, ?_⟩⟩
  · apply i_eq.mpr
    have e1 := i_mulc (a := (2 : Int32)) (b := r5) (c := 2) rfl (by omega) (by omega)
    rw [i_add (by omega) (by omega), e1, t_of (by omega)]
    omega
  · rw [show (2 * b + r9.toInt.toNat) / 2 = b by omega]; exact ht
theorem pl_plan_l (hP : Pl g n m M) (hA : Ald n m M 0) {x1 : Int32} (hx : x1.toInt < (cntz m n : Int)) : ∀ (fuel k a l : Nat), (k : Int) ≤ x1.toInt + 1 → a < 2 ^ n → a &&& m = m → cntz a n + k = cntz m n → 0 < mn M a → VL n a l → x1.toInt + 1 - k < fuel → Sf (mX7_planned_l57 135 fuel x1 (Int32.ofNat a) (Int32.ofNat l) (Int32.ofNat k) M) (fun q => q.1 = M) := by
  intro fuel
  induction fuel with
  | zero => intro k a l _ _ _ _ _ _ h; exfalso; omega
  | succ fuel IH =>
    intro k a l hk ha hb hz h0 hl hf
    have hn := hP.2.1.2.1
    have hp := z_pow n hn
    have hz8 := (z_full n hn m hP.2.1.2.2.2).1
    show Sf (mX7_planned_b57 135 (mX7_planned_l57 135 fuel) x1 (Int32.ofNat a) (Int32.ofNat l) (Int32.ofNat k) M) _
    unfold mX7_planned_b57
    refine Sf.i (fun _ => Sf.ok rfl) (fun c => ?_)
    have c := i_nlt c
    rw [t_of (by omega)] at c
    have hf2 : a ≠ 2 ^ n - 1 := fun e => by rw [e, (z_full2 n hn).1] at hz; omega
    refine Sf.c (pl_best hP hA ha hb hl h0 hf2) (fun r19 p => ?_)
    obtain ⟨c', hc', rfl, q1, q2⟩ := p
    have G := hP.2.2 a (by omega) ha hb
    have hzs := z_set n hn a ha (c' / 2) (by omega) (G.2.2.1 c' hc' q1)
    refine Sf.b (fun x2 e2 => Sf.b (fun x4 e4 => ?_))
    rw [f_half c' (by omega), f_or a (by omega) (c' / 2) (by omega)] at e2
    have e : x4 = Int32.ofNat (k + 1) := by rw [e4]; exact (Int32.ofNat_add k 1).symm
    rw [e2, e]
    exact IH (k + 1) _ c' (by omega) hzs.2.2.1 (z_sup hb) (by omega) q2 (Or.inr ⟨hc', hzs.2.2.2⟩) (by omega)
theorem sX7_planned {x1 : Int32} (h : OKm g M) (hR : Row n m (rd M 136)) : Sf (mX7_planned 135 x1 M) (qM (w2 g)) := by
  have hm0 := hR.2.2.2.1
  unfold mX7_planned mX7_planned_b32
  have no : ∀ M3 : Mem, OKm (w2 g) M3 → Sf (mX7_planned_b33 135 x1 (0 : Int32) M3) (qM (w2 g)) := by
    intro M3 h3
    unfold mX7_planned_b33
    refine Sf.m (sX7_good h3 (by decide)) (fun M10 r9 p => Sf.i (fun _ => Sf.ok p.1) (fun c => ?_))
    exact absurd (p.2.2.resolve_left (i_ne c)) (by decide)
  refine Sf.m (fr2 (R := fun q => Pl (gAll M) n m q.1 ∧ Ald n m q.1 0) h (fun g' h' => ?_)) (fun M3 _ p => ?_)
  · obtain ⟨y, e, h1, h2⟩ := sX7_layCosts' h' hR.nm
    obtain ⟨y', e', h1', h2'⟩ := sX7_layCosts' h.all hR.nm
    rw [e] at e'
    cases e'
    exact ⟨y, e, h1.1, h1', h2'⟩
  · obtain ⟨h3, k3, P3, A3⟩ := p
    have h3 : OKm (w2 g) M3 := h3
    have k3 : Keep2 M M3 := k3
    have P3 : Pl (gAll M) n m M3 := P3
    have R3 := hR.keep2 k3
    refine Sf.c (pl_isOrder P3.2.1) (fun r5 p5 => Sf.i (fun _ => no M3 h3) (fun c5 => Sf.c (pl_unmade h3 P3.2.1) (fun r24 p24 => ?_)))
    have h0 := p5.2.resolve_left (i_ne c5)
    have hz8 := (z_full n hR.2.1 m hm0).1
    have n1 : ((1 : Int32)).toInt = 1 := rfl
    have e24 := i_sub (a := r24) (b := 1) (by omega) (by omega)
    refine Sf.c (sX7_between (Int32.toInt_toInt64 _) (b := 0) (by decide) (Int32.toInt_toInt64 _)) (fun r27 p27 => Sf.i (fun _ => no M3 h3) (fun c27 => ?_))
    have hx := p27.2.resolve_left (i_ne c27)
    unfold mX7_planned_b33
    refine Sf.m (fr (R := fun q => zor q.2 (¬ ((1 : Int32)).toInt = 0)) h3 (fun g' h' => sX7_good h' (by decide))) (fun M10 r9 p10 => Sf.i (fun _ => Sf.ok p10.1) (fun c => Sf.k (by decide) (Sf.b (fun s0 es => ?_))))
    have k10 : Keep M3 M10 := p10.2.1
    have h10 : OKm (w2 g) M10 := p10.1
    have P10 : Pl (gAll M) n m M10 := P3.keep (P3.1.of_kept k10) k10
    have A10 : Ald n m M10 0 := Ald.keep A3 P3 k10
    have R10 : Row n m (rd M10 136) := R3.keep2 k10.k2
    have es : s0 = Int32.ofNat m := es.trans R10.2.2.1
    subst es
    refine Sf.c (pl_last h10 R10) (fun r15 p15 => ?_)
    obtain ⟨l, rfl, hl⟩ := p15
    have m10 : mn M10 m = mn M3 m := by unfold mn; rw [k10.2]
    refine Sf.mono (pl_plan_l P10 A10 (x1 := x1) (by omega) 5000 0 m l (by omega) hm0 (Nat.and_self m) (by omega) (by rw [m10]; exact h0) hl (by omega)) (fun q hq => ?_)
    show OKm (w2 g) q.1
    rw [hq]; exact h10
end PE
end
/-! part 59f.mi -/
section
/-! what holds of the reference's memory between two calls -/
def gS : Gm := (stdM, fun _ _ _ => True)
def HR (M : Mem) : Prop := ∀ e : Nat, (e : Int) < (rd M 135 4).toInt → ∃ n m, Row n m (fun j => rd M 139 (86 * e + j))
def MI (M : Mem) : Prop := OKm gS M ∧ (∃ n m, Row n m (rd M 136)) ∧ HR M
def MP {ρ : Type} (M : Mem) (q : Mem × ρ) : Prop := MI q.1 ∧ rd q.1 135 7 = rd M 135 7
section MF
variable {ρ : Type} {g : Gm} {M M' : Mem} {n m : Nat}
theorem gS_of (h : OKm (w2 gS) M) : OKm gS M := by
  have e : ∀ k j, (w2 gS).1 k j = stdM k j := fun k j => by
    show (if 145 ≤ k ∧ k ≤ 150 then stdM k j else stdM k j) = stdM k j
    split <;> rfl
  refine ⟨fun k j => ⟨Int.le_refl _, Int.le_refl _⟩, fun k j => ?_, fun _ _ => trivial⟩
  have h2 := h.2.1 k j
  unfold bxm at h2 ⊢
  rw [e] at h2
  exact h2
theorem MP.of2 (h : MI M) (h' : OKm (w2 gS) M') (hk : Keep2 M M') {r : ρ} : MP M (M', r) := by
  obtain ⟨_, ⟨n, m, hR⟩, hH⟩ := h
  refine ⟨⟨gS_of h', ⟨n, m, hR.keep2 hk⟩, fun e he => ?_⟩, hk 135 7 (by unfold W1; omega) (by omega)⟩
  have e4 : rd M' 135 4 = rd M 135 4 := hk 135 4 (by unfold W1; omega) (by omega)
  obtain ⟨n, m, hr⟩ := hH e (by rw [← e4]; exact he)
  exact ⟨n, m, hr.of (fun j => hk 139 _ (by unfold W1; omega) (by omega))⟩
theorem mp2 {x : Option (Mem × ρ)} (h : MI M) (hx : ∀ g', OKm g' M → Sf x (qM (w2 g'))) : Sf x (MP M) :=
  Sf.mono (fr2 (R := fun _ => True) h.1 (fun g' h' => Sf.mono (hx g' h') (fun q hq => ⟨hq, trivial⟩))) (fun q hq => MP.of2 h hq.1 hq.2.1)
theorem mp1 {x : Option (Mem × ρ)} (h : MI M) (hx : ∀ g', OKm g' M → Sf x (qM g')) : Sf x (MP M) :=
  Sf.mono (fr (R := fun _ => True) h.1 (fun g' h' => Sf.mono (hx g' h') (fun q hq => ⟨hq, trivial⟩))) (fun q hq => MP.of2 h (OKm.w2 hq.1) hq.2.1.k2)
theorem mpi {x : Option (Mem × Int32)} {lo hi : Int} (h : MI M) (hx : ∀ g', OKm g' M → Sf x (qMI g' lo hi)) : Sf x (MP M) :=
  mp1 h (fun g' h' => Sf.mono (hx g' h') (fun q hq => hq.1))
theorem row_th {v : Int32} (h : Row n m (rd M 136)) : Row n m (rd (wr M 135 5 v) 136) := h.of (fun j => rd_wk (by decide))
/-! orders, costs -/
theorem lo (h : OKm g M) (hN : NM n m M) : Sf (mX7_layOrders 135 M) (fun q => OKm (w2 g) q.1 ∧ Keep2 M q.1 ∧ NM n m q.1) :=
  Sf.mono (fr2 (R := fun q => NM n m q.1) h (fun g' h' => Sf.mono (sX7_layOrders' h' hN) (fun q hq => ⟨hq.1, hq.2.1⟩))) (fun q hq => hq)
theorem lc (h : OKm g M) (hN : NM n m M) : Sf (mX7_layCosts 135 M) (fun q => OKm (w2 g) q.1 ∧ Keep2 M q.1 ∧ NM n m q.1) :=
  Sf.mono (fr2 (R := fun q => NM n m q.1) h (fun g' h' => Sf.mono (sX7_layCosts' h' hN) (fun q hq => ⟨hq.1.1, hq.1.2.1⟩))) (fun q hq => hq)
theorem NM.m256 (h : NM n m M) : m < 256 := by have := z_pow n h.2.1; have := h.2.2.2; omega
theorem sX7_orders (h : OKm g M) (hR : Row n m (rd M 136)) : Sf (mX7_orders 135 M) (qM (w2 g)) := by
  unfold mX7_orders
  refine Sf.b (fun M1 e1 => ?_)
  subst e1
  refine Sf.m (lo (th_put h) (row_th hR).nm) (fun M5 _ p => ?_)
  have N5 : NM n m M5 := p.2.2
  have hm := N5.m256
  show Sf (chk (okb (52 : Int32) 86) (chk (okb (rd M5 136 52) 256) _)) _
  rw [N5.2.2.1]
  exact Sf.k (by decide) (Sf.k (ok_in (by rw [t_of (by omega)]; omega) (by rw [t_of (by omega)]; omega)) (Sf.ok p.1))
theorem at17 {x : Int32} (hm : m < 256) (hx : 0 ≤ x.toInt ∧ x.toInt ≤ 16) : okb ((17 : Int32) * Int32.ofNat m + x) 4352 = true := by
  have e := o_of (x := x) hx.1
  rw [e]
  exact ok_in (by rw [ix17 hm (by omega)]; omega) (by rw [ix17 hm (by omega)]; omega)
theorem sX7_leastNow (h : OKm g M) (hR : Row n m (rd M 136)) : Sf (mX7_leastNow 135 M) (qM (w2 g)) := by
  unfold mX7_leastNow
  refine Sf.m (lc h hR.nm) (fun M3 _ p => ?_)
  have N3 : NM n m M3 := p.2.2
  have h3 : OKm (w2 g) M3 := p.1
  refine Sf.c (pl_isOrder N3) (fun r5 _ => Sf.i (fun _ => Sf.ok h3) (fun _ => Sf.k (by decide) (Sf.c (sX7_lastNow h3) (fun r10 pr => ?_))))
  refine Sf.k ?_ (Sf.ok h3)
  show okb ((17 : Int32) * rd M3 136 52 + r10) 4352 = true
  rw [N3.2.2.1]
  exact at17 N3.m256 pr
theorem sX7_leastCost (h : OKm g M) (hR : Row n m (rd M 136)) : Sf (mX7_leastCost 135 M) (qM (w2 g)) := by
  unfold mX7_leastCost
  refine Sf.b (fun M1 e1 => ?_)
  subst e1
  exact Sf.m (sX7_leastNow (th_put h) (row_th hR)) (fun M5 r4 p => Sf.ok p)
theorem sX7_greatestCost (h : OKm g M) (hR : Row n m (rd M 136)) : Sf (mX7_greatestCost 135 M) (qM (w2 g)) := by
  unfold mX7_greatestCost
  refine Sf.b (fun M1 e1 => ?_)
  subst e1
  refine Sf.m (lc (th_put h) (row_th hR).nm) (fun M3 _ p => ?_)
  have N3 : NM n m M3 := p.2.2
  have h3 : OKm (w2 g) M3 := p.1
  refine Sf.c (pl_isOrder N3) (fun r5 _ => Sf.i (fun _ => Sf.ok h3) (fun _ => Sf.k (by decide) (Sf.c (sX7_lastNow h3) (fun r10 pr => ?_))))
  refine Sf.k ?_ (Sf.ok h3)
  show okb ((17 : Int32) * rd M3 136 52 + r10) 4352 = true
  rw [N3.2.2.1]
  exact at17 N3.m256 pr
theorem sX7_plannedSteps (h : OKm g M) (hR : Row n m (rd M 136)) : Sf (mX7_plannedSteps 135 M) (qM (w2 g)) := by
  unfold mX7_plannedSteps
  refine Sf.b (fun M1 e1 => ?_)
  subst e1
  refine Sf.m (lo (th_put h) (row_th hR).nm) (fun M5 _ p => ?_)
  have h5 : OKm (w2 g) M5 := p.1
  exact Sf.c (pl_isOrder p.2.2) (fun r7 _ => Sf.i (fun _ => Sf.ok h5) (fun _ => Sf.c (pl_unmade h5 p.2.2) (fun r11 _ => Sf.ok h5)))
theorem sX7_ordersWith {x1 x2 : Int32} (h : OKm g M) (hR : Row n m (rd M 136)) : Sf (mX7_ordersWith 135 x1 x2 M) (qM (w2 g)) := by
  unfold mX7_ordersWith
  refine Sf.c (sX7_isBend h) (fun r2 p2 => Sf.c sX7_isSide (fun r5 p5 => ?_))
  refine Sf.m (fr (R := fun q => zor q.2 (¬ r2.toInt = 0 ∧ ¬ r5.toInt = 0)) h (fun g' h' => sX7_good_ h')) (fun M9 r8 p8 => Sf.i (fun _ => Sf.ok (OKm.w2 p8.1)) (fun c8 => ?_))
  have q8 := p8.2.2.2.resolve_left (i_ne c8)
  have hb := p2.2.resolve_left q8.1
  have hs := p5.2.resolve_left q8.2
  have k9 : Keep M M9 := p8.2.1
  have N9 : NM n m M9 := hR.nm.keep k9
  refine Sf.m (lo (show OKm g M9 from p8.1) N9) (fun M13 _ p => ?_)
  have h13 : OKm (w2 g) M13 := p.1
  have N13 : NM n m M13 := p.2.2
  have hm := N13.m256
  show Sf (chk (okb (52 : Int32) 86) (chk (okb ((((16 : Int32) * rd M13 136 52) + ((2 : Int32) * x1)) + x2) 4096) (ite2 (rd M13 (135 + 10) (((((16 : Int32) * rd M13 136 52) + ((2 : Int32) * x1)) + x2)).toNatClampNeg = 0) (some (M13, (0 : Int64))) (chk (okb (52 : Int32) 86) (chk (okb (rd M13 136 52 ||| ((1 : Int32) <<< (x1 &&& 31))) 256) (some (M13, rl M13 (135 + 12) ((rd M13 136 52 ||| ((1 : Int32) <<< (x1 &&& 31)))).toNatClampNeg))))))) _
  rw [N13.2.2.1]
  have e1 := o_of (x := x1) hb.1
  have tm : (Int32.ofNat m).toInt = (m : Int) := t_of (by omega)
  have a1 := i_mulc (a := (16 : Int32)) (b := Int32.ofNat m) (c := 16) rfl (by omega) (by omega)
  have a2 := i_mulc (a := (2 : Int32)) (b := x1) (c := 2) rfl (by omega) (by omega)
  have a3 := i_add (a := (16 : Int32) * Int32.ofNat m) (b := (2 : Int32) * x1) (by omega) (by omega)
  have a4 := i_add (a := (16 : Int32) * Int32.ofNat m + (2 : Int32) * x1) (b := x2) (by omega) (by omega)
  refine Sf.k (by decide) (Sf.k (ok_in (by omega) (by omega)) (Sf.i (fun _ => Sf.ok h13) (fun _ => Sf.k (by decide) (Sf.k ?_ (Sf.ok h13)))))
  have o := i_or (a := Int32.ofNat m) (b := (1 : Int32) <<< (x1 &&& 31)) 8 (by decide) (by rw [tm]; omega) (by have := i_shl (b := x1) 7 (by decide) (by omega); omega)
  exact ok_in o.1 (by have := o.2; omega)
theorem sX7_layReached (h : OKm g M) (hN : NM n m M) : Sf (mX7_layReached 135 M) (qM (w2 g)) := by
  unfold mX7_layReached
  exact Sf.m (lo h hN) (fun M3 _ p => sX7_layReached_l6 p.1 (by decide) (by decide))
theorem sX7_lastSteps (h : OKm g M) (hR : Row n m (rd M 136)) : Sf (mX7_lastSteps 135 M) (qM (w2 g)) := by
  unfold mX7_lastSteps
  refine Sf.b (fun M1 e1 => ?_)
  subst e1
  exact Sf.m (sX7_layReached (th_put h) (row_th hR).nm) (fun M5 _ p => Sf.mono (sX7_lastSteps_l13 p (by decide) (by decide) (by decide)) (fun q hq => hq.1))
theorem sX7_mostBends (h : OKm g M) (hR : Row n m (rd M 136)) : Sf (mX7_mostBends 135 M) (qM (w2 g)) := by
  unfold mX7_mostBends
  refine Sf.b (fun M1 e1 => ?_)
  subst e1
  exact Sf.m (sX7_layReached (th_put h) (row_th hR).nm) (fun M5 _ p => Sf.mono (sX7_mostBends_l13 p (by decide) (by decide) (by decide)) (fun q hq => hq.1))
/-! corner, doubles -/
theorem sX7_corner_no {x1 x2 x3 x4 y1 y2 : Int32} (h : OKm g M) (hy : y1 = 0 ∨ y2 = 0) : Sf (mX7_corner_b45 135 x1 x2 x3 x4 y1 y2 M) (qM g) := by
  unfold mX7_corner_b45
  refine Sf.m (sX7_good_ h) (fun M11 r10 p => Sf.i (fun _ => Sf.ok p.1) (fun c => ?_))
  have q := p.2.2.resolve_left (i_ne c)
  rcases hy with rfl | rfl
  · exact absurd rfl q.1
  · exact absurd rfl q.2
theorem sX7_corner {x1 x2 x3 x4 : Int32} (h : OKm g M) : Sf (mX7_corner 135 x1 x2 x3 x4 M) (qM g) := by
  have b22 : ∀ y1 : Int32, (y1 = 0 ∨ (0 ≤ x1.toInt ∧ x1.toInt ≤ 7) ∧ (0 ≤ x3.toInt ∧ x3.toInt ≤ 8)) → Sf (mX7_corner_b22 135 x1 x2 x3 x4 y1 M) (qM g) := by
    intro y1 hy
    unfold mX7_corner_b22 mX7_corner_b44
    refine Sf.c sX7_isSide (fun r6 p6 => Sf.i (fun _ => sX7_corner_no h (Or.inr rfl)) (fun c6 => ?_))
    have hs := p6.2.resolve_left (i_ne c6)
    refine Sf.c (sX7_between (Int32.toInt_toInt64 _) (b := 0) (by decide) (c := 1) (by decide)) (fun r21 _ => Sf.i (fun _ => sX7_corner_no h (Or.inr rfl)) (fun _ => ?_))
    rcases hy with rfl | ⟨h1, h3⟩
    · exact sX7_corner_no h (Or.inl rfl)
    · unfold mX7_corner_b45
      refine Sf.m (sX7_good_ h) (fun M11 r10 p => Sf.i (fun _ => Sf.ok p.1) (fun _ => Sf.k (by decide) ?_))
      have h11 : OKm g M11 := p.1
      have bm : (0 : Int) ≤ (rd M11 (135 + 1) ((52 : Int32)).toNatClampNeg).toInt ∧ (rd M11 (135 + 1) ((52 : Int32)).toNatClampNeg).toInt ≤ 255 := h11.std 136 52
      exact Sf.m (sX7_laySheet h11 h1 hs bm) (fun M16 _ p16 => Sf.i (fun _ => Sf.k (ok_in h3.1 (by omega)) (Sf.ok p16)) (fun _ => Sf.k (ok_in h3.1 (by omega)) (Sf.ok p16)))
  unfold mX7_corner mX7_corner_b21
  refine Sf.c (sX7_isBend h) (fun r2 p2 => Sf.i (fun _ => b22 0 (Or.inl rfl)) (fun c2 => Sf.c (sX7_isLeg h) (fun r25 p25 => Sf.i (fun _ => b22 0 (Or.inl rfl)) (fun c25 => b22 1 (Or.inr ⟨?_, ?_⟩)))))
  · have := p2.2.resolve_left (i_ne c2); omega
  · have := p25.2.resolve_left (i_ne c25); omega
theorem sX7_deductionNow : Sf (mX7_deductionNow 135 M) (Mg 1100) := by
  unfold mX7_deductionNow
  refine Sf.k (by decide) (Sf.b (fun x1 e1 => Sf.k (by decide) (Sf.b (fun x3 e3 => Sf.k (by decide) (Sf.b (fun x5 e5 => ?_))))))
  have m1 : Mg 1056 x1 := by rw [e1]; exact mg_i _
  have m3 : Mg 1056 x3 := by rw [e3]; exact mg_i _
  have m5 : Mg 1056 x5 := by rw [e5]; exact mg_i _
  have a0 := m3.add m1 (K' := 1058) (by decide) (by decide)
  have a1 := mg_2.mul a0 (K := 1061) (by decide) (by decide) (by decide)
  have a2 := m5.div (K' := 1051) mg_100b (mg_100.up (by decide)) (by decide) (by decide) (by decide)
  have a3 := a2.mul m1 (K := 1085) (by decide) (by decide) (by decide)
  have a4 := (m3.up (K' := 1085) (by decide)).add a3 (K' := 1087) (by decide) (by decide)
  have a5 := mg_pi.mul a4 (K := 1089) (by decide) (by decide) (by decide)
  have a6 := (a1.up (K' := 1089) (by decide)).sub a5 (K' := 1091) (by decide) (by decide)
  refine Sf.k (n64_of a0 (by decide)) (Sf.k (n64_of a1 (by decide)) (Sf.k (n64_of a2 (by decide)) (Sf.k (n64_of a3 (by decide)) (Sf.k (n64_of a4 (by decide)) (Sf.k (n64_of a5 (by decide)) (Sf.k (n64_of a6 (by decide)) (Sf.ok ?_)))))))
  exact a6.up (by decide)
theorem sX7_deduction (h : OKm g M) : Sf (mX7_deduction 135 M) (qM g) := by
  unfold mX7_deduction
  exact Sf.b (fun M1 e1 => Sf.c sX7_deductionNow (fun r4 _ => Sf.ok (by show OKm g M1; rw [e1]; exact th_put h)))
theorem sX7_flatLength (h : OKm g M) : Sf (mX7_flatLength 135 M) (qM g) := by
  unfold mX7_flatLength
  refine Sf.b (fun M1 e1 => ?_)
  have h1 : OKm g M1 := by rw [e1]; exact th_put h
  have b : (0 : Int) ≤ (rd M1 (135 + 1) ((1 : Int32)).toNatClampNeg).toInt ∧ (rd M1 (135 + 1) ((1 : Int32)).toNatClampNeg).toInt ≤ 9 := h1.std 136 1
  refine Sf.k (by decide) (Sf.i (fun _ => Sf.ok h1) (fun _ => Sf.k (by decide) (Sf.c (sX7_sumOfLegs h1 b) (fun r7 _ => Sf.k (by decide) (Sf.c sX7_deductionNow (fun r11 h11 => ?_))))))
  have a1 := (mg_i (rd M1 (135 + 1) ((0 : Int32)).toNatClampNeg)).mul h11 (K := 1134) (by decide) (by decide) (by decide)
  have a2 := ((mg_i r7).up (K' := 1134) (by decide)).sub a1 (K' := 1136) (by decide) (by decide)
  exact Sf.k (n64_of a1 (by decide)) (Sf.k (n64_of a2 (by decide)) (Sf.ok h1))
theorem sX7_linePlace {x1 : Int32} (h : OKm g M) : Sf (mX7_linePlace 135 x1 M) (qM g) := by
  unfold mX7_linePlace
  refine Sf.c (sX7_isBend h) (fun r2 p2 => Sf.m (sX7_good h p2.1) (fun M6 r5 p => Sf.i (fun _ => Sf.ok p.1) (fun c => ?_)))
  have hb := p2.2.resolve_left (p.2.2.resolve_left (i_ne c))
  have h6 : OKm g M6 := p.1
  have n1 : ((1 : Int32)).toInt = 1 := rfl
  have e := i_add (a := x1) (b := 1) (by omega) (by omega)
  have a0 := (mg_i x1).add (mg_half.up (K' := 1056) (by decide)) (K' := 1058) (by decide) (by decide)
  refine Sf.c (sX7_sumOfLegs h6 (by omega)) (fun r9 _ => Sf.k (n64_of a0 (by decide)) (Sf.c sX7_deductionNow (fun r13 h13 => ?_)))
  have a1 := a0.mul h13 (K := 1136) (by decide) (by decide) (by decide)
  have a2 := ((mg_i r9).up (K' := 1136) (by decide)).sub a1 (K' := 1138) (by decide) (by decide)
  exact Sf.k (n64_of a1 (by decide)) (Sf.k (n64_of a2 (by decide)) (Sf.ok h6))
theorem sX7_ratioNow (h : OKm g M) : Sf (mX7_ratioNow 135 M) (Mg 1070) := by
  unfold mX7_ratioNow
  have b : (1 : Int) ≤ (rd M (135 + 1) ((36 : Int32)).toNatClampNeg).toInt ∧ (rd M (135 + 1) ((36 : Int32)).toNatClampNeg).toInt ≤ 60 := h.std 136 36
  have a1 := mg_10.mul (mg_i (rd M (135 + 1) ((37 : Int32)).toNatClampNeg)) (K := 1061) (by decide) (by decide) (by decide)
  have a2 := a1.div (K' := 1062) (Mg.big (v := rd M (135 + 1) ((36 : Int32)).toNatClampNeg) (by omega)) ((mg_i _).up (by decide)) (by decide) (by decide) (by decide)
  exact Sf.k (by decide) (Sf.k (n64_of a1 (by decide)) (Sf.k (by decide) (Sf.k (n64_of a2 (by decide)) (Sf.ok (a2.up (by decide))))))
theorem sX7_ratio (h : OKm g M) : Sf (mX7_ratio 135 M) (qM g) := by
  unfold mX7_ratio
  refine Sf.b (fun M1 e1 => ?_)
  have h1 : OKm g M1 := by rw [e1]; exact th_put h
  exact Sf.c (sX7_ratioNow h1) (fun r4 _ => Sf.ok h1)
/-! spring-back -/
theorem bk_ix {x : Int32} (h : 0 ≤ x.toInt ∧ x.toInt ≤ 7) : ((20 : Int32) + (2 : Int32) * x).toInt = 20 + 2 * x.toInt ∧ (((20 : Int32) + (2 : Int32) * x) + (1 : Int32)).toInt = 21 + 2 * x.toInt := by
  have n20 : ((20 : Int32)).toInt = 20 := rfl
  have n1 : ((1 : Int32)).toInt = 1 := rfl
  have e1 := i_mulc (a := (2 : Int32)) (b := x) (c := 2) rfl (by omega) (by omega)
  have e2 := i_add (a := (20 : Int32)) (b := (2 : Int32) * x) (by omega) (by omega)
  have e3 := i_add (a := (20 : Int32) + (2 : Int32) * x) (b := (1 : Int32)) (by omega) (by omega)
  omega
theorem sX7_ratioOf {x : Int32} (h : 0 ≤ x.toInt ∧ x.toInt ≤ 7) : Sf (mX7_ratioOf 135 x M) (fun r => r = FP.i2d (rd M 136 (20 + 2 * x.toInt.toNat))) := by
  have e := (bk_ix h).1
  unfold mX7_ratioOf
  refine Sf.k (ok_in (by omega) (by omega)) (Sf.ok ?_)
  show FP.i2d (rd M 136 _) = _
  rw [i_clamp, e]
  congr 2
  omega
theorem sX7_angleOf {x : Int32} (h : 0 ≤ x.toInt ∧ x.toInt ≤ 7) : Sf (mX7_angleOf 135 x M) (Mg 1056) := by
  have e := (bk_ix h).2
  unfold mX7_angleOf
  exact Sf.k (ok_in (by omega) (by omega)) (Sf.ok (mg_i _))
theorem bk_box : ∀ j, j < 8 → stdM 136 (20 + 2 * j) = (0, 999) := by decide
theorem sX7_springBy_l (h : OKm g M) {x1 : UInt64} (h1 : Mg 1070 x1) {n : Nat} (hn : n ≤ 8) (hlast : Op.cmpValue (FP.dcmp x1 (FP.i2d (rd M 136 (20 + 2 * (n - 1))))) CmpOp.l ≤ 0) : ∀ (fuel k : Nat), 1 ≤ k → k < n → ¬ (Op.cmpValue (FP.dcmp x1 (FP.i2d (rd M 136 (20 + 2 * (k - 1))))) CmpOp.l ≤ 0) → n - k < fuel → Sf (mX7_springBy_l53 135 M fuel x1 (Int32.ofNat k)) (Mg 1120) := by
  intro fuel
  induction fuel with
  | zero => intro k _ _ _ h; exfalso; omega
  | succ fuel IH =>
    intro k hk hkn hb hf
    show Sf (mX7_springBy_b53 135 M (mX7_springBy_l53 135 M fuel) x1 (Int32.ofNat k)) _
    unfold mX7_springBy_b53
    have tk : (Int32.ofNat k).toInt = (k : Int) := t_of (by omega)
    have n1 : ((1 : Int32)).toInt = 1 := rfl
    have ek : (Int32.ofNat k - (1 : Int32)).toInt = (k : Int) - 1 := by rw [i_sub (by omega) (by omega), tk, n1]
    have hk1 : 0 ≤ (Int32.ofNat k).toInt ∧ (Int32.ofNat k).toInt ≤ 7 := by omega
    have hk2 : 0 ≤ (Int32.ofNat k - (1 : Int32)).toInt ∧ (Int32.ofNat k - (1 : Int32)).toInt ≤ 7 := by omega
    refine Sf.c (sX7_ratioOf hk1) (fun r13 e13 => Sf.i (fun c => ?_) (fun c => ?_))
    · rw [show (Int32.ofNat k).toInt.toNat = k by omega] at e13
      refine Sf.c (sX7_angleOf hk2) (fun r17 m17 => Sf.c (sX7_angleOf hk1) (fun r20 m20 => Sf.c (sX7_angleOf hk2) (fun r23 m23 => ?_)))
      have a1 := m20.sub m23 (K' := 1058) (by decide) (by decide)
      refine Sf.k (n64_of a1 (by decide)) (Sf.c (sX7_ratioOf hk2) (fun r27 e27 => ?_))
      have m27 : Mg 1056 r27 := by rw [e27]; exact mg_i _
      have a2 := h1.sub (m27.up (K' := 1070) (by decide)) (K' := 1072) (by decide) (by decide)
      have a3 := a1.mul a2 (K := 1108) (by decide) (by decide) (by decide)
      refine Sf.k (n64_of a2 (by decide)) (Sf.k (n64_of a3 (by decide)) (Sf.c (sX7_ratioOf hk1) (fun r32 e32 => Sf.c (sX7_ratioOf hk2) (fun r35 e35 => ?_))))
      rw [show (Int32.ofNat k - (1 : Int32)).toInt.toNat = k - 1 by omega] at e35
      rw [show (Int32.ofNat k).toInt.toNat = k by omega] at e32
      have ba : (0 : Int) ≤ (rd M 136 (20 + 2 * k)).toInt ∧ (rd M 136 (20 + 2 * k)).toInt ≤ 999 := h.at (bk_box k (by omega))
      have bb : (0 : Int) ≤ (rd M 136 (20 + 2 * (k - 1))).toInt ∧ (rd M 136 (20 + 2 * (k - 1))).toInt ≤ 999 := h.at (bk_box (k - 1) (by omega))
      have hne : (rd M 136 (20 + 2 * k)).toInt ≠ (rd M 136 (20 + 2 * (k - 1))).toInt := by
        intro e
        have e2 : rd M 136 (20 + 2 * k) = rd M 136 (20 + 2 * (k - 1)) := i_eq.mpr e
        rw [e13, e2] at c
        exact hb c
      have ed : FP.dsub r32 r35 = FP.i2d (rd M 136 (20 + 2 * k) - rd M 136 (20 + 2 * (k - 1))) := by rw [e32, e35]; exact d_sub (by omega) (by omega) hne
      rw [ed]
      have ev := i_sub (a := rd M 136 (20 + 2 * k)) (b := rd M 136 (20 + 2 * (k - 1))) (by omega) (by omega)
      have a4 := a3.div (K' := 1109) (Mg.big (v := rd M 136 (20 + 2 * k) - rd M 136 (20 + 2 * (k - 1))) (by omega)) ((mg_i _).up (by decide)) (by decide) (by decide) (by decide)
      have a5 := (m17.up (K' := 1109) (by decide)).add a4 (K' := 1111) (by decide) (by decide)
      exact Sf.k (n64_of (mg_i _) (by decide)) (Sf.k (n64_of a4 (by decide)) (Sf.k (n64_of a5 (by decide)) (Sf.ok (a5.up (by decide)))))
    · rw [e13, show (Int32.ofNat k).toInt.toNat = k by omega] at c
      refine Sf.b (fun y ey => ?_)
      have e : y = Int32.ofNat (k + 1) := by rw [ey]; exact (Int32.ofNat_add k 1).symm
      rw [e]
      have hkn2 : k + 1 < n := by
        rcases Nat.lt_or_ge (k + 1) n with q | q
        · exact q
        · have : k = n - 1 := by omega
          rw [this] at c
          exact absurd hlast c
      exact IH (k + 1) (by omega) hkn2 (by rw [show k + 1 - 1 = k by omega]; exact c) (by omega)
theorem cmp_gl {x y : UInt64} (hx : Mg 1070 x) (hy : Mg 1070 y) : Op.cmpValue (FP.dcmp x y) CmpOp.g = Op.cmpValue (FP.dcmp x y) CmpOp.l := by
  obtain ⟨o, e⟩ := Mg.some hx hy (by decide)
  rw [e]; cases o <;> rfl
theorem sX7_springBy (h : OKm g M) {x1 : UInt64} (h1 : Mg 1070 x1) : Sf (mX7_springBy 135 x1 M) (Mg 1120) := by
  unfold mX7_springBy
  have b : (0 : Int) ≤ (rd M (135 + 1) ((19 : Int32)).toNatClampNeg).toInt ∧ (rd M (135 + 1) ((19 : Int32)).toNatClampNeg).toInt ≤ 8 := h.std 136 19
  refine Sf.k (by decide) (Sf.b (fun x3 e3 => Sf.i (fun _ => Sf.ok (mg_0.up (by decide))) (fun c0 => ?_)))
  have c0 := i_ne c0
  rw [show ((0 : Int32)).toInt = 0 from rfl] at c0
  have b3 : 1 ≤ x3.toInt ∧ x3.toInt ≤ 8 := by have := congrArg Int32.toInt e3; omega
  have n1 : ((1 : Int32)).toInt = 1 := rfl
  have e31 : (x3 - (1 : Int32)).toInt = x3.toInt - 1 := by rw [i_sub (by omega) (by omega), n1]
  refine Sf.c (sX7_ratioOf (x := 0) (by decide)) (fun r5 e5 => Sf.i (fun c1 => ?_) (fun _ => Sf.c (sX7_angleOf (x := 0) (by decide)) (fun r45 m45 => Sf.ok (m45.up (by decide)))))
  refine Sf.c (sX7_ratioOf (x := x3 - (1 : Int32)) (by omega)) (fun r9 e9 => Sf.i (fun c2 => ?_) (fun _ => Sf.c (sX7_angleOf (x := x3 - (1 : Int32)) (by omega)) (fun r42 m42 => Sf.ok (m42.up (by decide)))))
  have e5 : r5 = FP.i2d (rd M 136 (20 + 2 * 0)) := e5
  rw [show (x3 - (1 : Int32)).toInt.toNat = x3.toInt.toNat - 1 by omega] at e9
  have c2 := i_lt.mp c2
  rw [e9] at c2
  rw [e5, cmp_gl h1 ((mg_i _).up (by decide))] at c1
  have c1 := i_lt.mp c1
  have hn2 : 1 < x3.toInt.toNat := by
    rcases Nat.lt_or_ge 1 x3.toInt.toNat with q | q
    · exact q
    · exfalso
      have : x3.toInt.toNat = 1 := by omega
      rw [this] at c2
      have c2 : (Op.cmpValue (FP.dcmp x1 (FP.i2d (rd M 136 (20 + 2 * 0)))) CmpOp.l).toInt < ((0 : Int32)).toInt := c2
      omega
  refine sX7_springBy_l h h1 (n := x3.toInt.toNat) (by omega) (i_le.mpr (by omega)) 5000 1 (by omega) hn2 (fun q => ?_) (by omega)
  have q : (Op.cmpValue (FP.dcmp x1 (FP.i2d (rd M 136 (20 + 2 * 0)))) CmpOp.l).toInt ≤ ((0 : Int32)).toInt := i_le.mp q
  omega
theorem sX7_springBack (h : OKm g M) : Sf (mX7_springBack 135 M) (qM g) := by
  unfold mX7_springBack
  refine Sf.b (fun M1 e1 => ?_)
  have h1 : OKm g M1 := by rw [e1]; exact th_put h
  exact Sf.c (sX7_ratioNow h1) (fun r4 m4 => Sf.c (sX7_springBy h1 m4) (fun r7 _ => Sf.ok h1))
theorem sX7_swingAngle (h : OKm g M) : Sf (mX7_swingAngle 135 M) (qM g) := by
  unfold mX7_swingAngle
  refine Sf.b (fun M1 e1 => ?_)
  have h1 : OKm g M1 := by rw [e1]; exact th_put h
  have m900 : Mg 1120 (4651127699538968576 : UInt64) := by unfold Mg; decide
  exact Sf.c (sX7_ratioNow h1) (fun r4 m4 => Sf.c (sX7_springBy h1 m4) (fun r7 m7 => Sf.k (n64_of (m900.add m7 (K' := 1122) (by decide) (by decide)) (by decide)) (Sf.ok h1)))
theorem sX7_springBackFor {x1 : UInt64} (h : OKm g M) (h1 : Mg 1070 x1) : Sf (mX7_springBackFor 135 x1 M) (qM g) := by
  have b20 : ∀ y : Int32, 0 ≤ y.toInt ∧ y.toInt ≤ 1 → Sf (mX7_springBackFor_b20 135 x1 y M) (qM g) := by
    intro y hy
    unfold mX7_springBackFor_b20
    exact Sf.m (sX7_good h hy) (fun M4 r3 p => Sf.i (fun _ => Sf.ok p.1) (fun _ => Sf.c (sX7_springBy (show OKm g M4 from p.1) h1) (fun r7 _ => Sf.ok p.1)))
  unfold mX7_springBackFor mX7_springBackFor_b19
  exact Sf.i (fun _ => b20 0 (by decide)) (fun _ => Sf.i (fun _ => b20 0 (by decide)) (fun _ => b20 1 (by decide)))
end MF
end
/-! part 59g.edit -/
section
/-! the reference's edits -/
def Out (M M' : Mem) : Prop := ∀ k j, k ≠ 139 → ¬ (k = 135 ∧ j = 4) → rd M' k j = rd M k j
section EG
variable {M M' M0 : Mem} {n m e : Nat} {v x1 x2 x3 : Int32}
theorem Row.cong {f f' : Nat → Int32} (h : Row n m f) (q : ∀ j, j < 86 → f' j = f j) : Row n m f' := by
  obtain ⟨h0, hn, h52, hm, h36, k, h53, hk, hl⟩ := h
  refine ⟨(q 0 (by omega)).trans h0, hn, (q 52 (by omega)).trans h52, hm, by rw [q 36 (by omega)]; exact h36, k, (q 53 (by omega)).trans h53, hk, fun j hj => ?_⟩
  obtain ⟨b, hb, e1, e2⟩ := hl j hj
  exact ⟨b, hb, (q _ (by omega)).trans e1, e2⟩
theorem o86 {i : Nat} (he : e ≤ 9) (hi : i ≤ 86) : ((86 : Int32) * Int32.ofNat e + Int32.ofNat i).toInt = 86 * (e : Int) + i := by
  have te : (Int32.ofNat e).toInt = (e : Int) := t_of (by omega)
  have ti : (Int32.ofNat i).toInt = (i : Int) := t_of (by omega)
  have a := i_mulc (a := (86 : Int32)) (b := Int32.ofNat e) (c := 86) rfl (by omega) (by omega)
  rw [i_add (by omega) (by omega), a]; omega
theorem o86c {i : Nat} (he : e ≤ 9) (hi : i ≤ 86) : ((86 : Int32) * Int32.ofNat e + Int32.ofNat i).toNatClampNeg = 86 * e + i := by rw [i_clamp, o86 he hi]; omega
theorem put139 {j : Nat} (h : OKm gS M) (hv : (bxS 0 (j % 86)).1 ≤ v.toInt ∧ v.toInt ≤ (bxS 0 (j % 86)).2) : OKm gS (wr M 139 j v) := h.put rfl hv
theorem put136 {j : Nat} (h : OKm gS M) (hv : (bxS 1 j).1 ≤ v.toInt ∧ v.toInt ≤ (bxS 1 j).2) : OKm gS (wr M 136 j v) := h.put rfl hv
theorem putE (h : OKm gS M) (hv : 0 ≤ v.toInt ∧ v.toInt ≤ 10) : OKm gS (wr M 135 4 v) := h.put (b := (0, 10)) rfl hv
theorem bx10 : ∀ i, i < 86 → (bxS 0 i).1 ≤ (bxS 1 i).1 ∧ (bxS 1 i).2 ≤ (bxS 0 i).2 := by decide
theorem rem_copy (he : e < 10) : ∀ (fuel i : Nat) (M : Mem), i ≤ 86 → OKm gS M → rd M 135 4 = Int32.ofNat e → (∀ k j, k ≠ 139 → rd M k j = rd M0 k j) → (∀ p, p < i → rd M 139 (86 * e + p) = rd M0 136 p) → (∀ p, p < 86 * e → rd M 139 p = rd M0 139 p) → 86 - i < fuel → Sf (mX7_remember_l52 135 fuel (Int32.ofNat i) M) (fun q => OKm gS q.1 ∧ rd q.1 135 4 = Int32.ofNat (e + 1) ∧ Out M0 q.1 ∧ (∀ p, p < 86 → rd q.1 139 (86 * e + p) = rd M0 136 p) ∧ ∀ p, p < 86 * e → rd q.1 139 p = rd M0 139 p) := by
  intro fuel
  induction fuel with
  | zero => intro i M _ _ _ _ _ _ h; exfalso; omega
  | succ fuel IH =>
    intro i M hi h h4 hk hp hq hf
    show Sf (mX7_remember_b52 135 (mX7_remember_l52 135 fuel) (Int32.ofNat i) M) _
    unfold mX7_remember_b52
    rw [h4]
    have ti : (Int32.ofNat i).toInt = (i : Int) := t_of (by omega)
    refine Sf.i (fun c => Sf.b (fun M3 e3 => Sf.ok ?_)) (fun c => ?_)
    · have c := i_le.mp c
      rw [ti, show ((86 : Int32)).toInt = 86 from rfl] at c
      have e1 : Int32.ofNat e + (1 : Int32) = Int32.ofNat (e + 1) := (Int32.ofNat_add e 1).symm
      rw [e1] at e3
      refine ⟨?_, ?_, fun k j k1 k2 => ?_, fun p hp9 => ?_, fun p hp9 => ?_⟩
      · show OKm gS M3
        rw [e3]; exact putE h (by rw [t_of (by omega)]; omega)
      · show rd M3 135 4 = _
        rw [e3]; exact rd_we
      · show rd M3 k j = _
        rw [e3, ← hk k j k1]
        by_cases k3 : k = 135
        · subst k3; exact rd_wj (by omega)
        · exact rd_wk k3
      · show rd M3 139 _ = _
        rw [e3, rd_wk (by decide)]; exact hp p (by omega)
      · show rd M3 139 _ = _
        rw [e3, rd_wk (by decide)]; exact hq p hp9
    · have c := i_nle c
      rw [ti, show ((86 : Int32)).toInt = 86 from rfl] at c
      refine Sf.k (ok_in (by omega) (by omega)) (Sf.k (ok_in (by rw [o86 (by omega) (by omega)]; omega) (by rw [o86 (by omega) (by omega)]; omega)) (Sf.b (fun M8 e8 => Sf.b (fun y ey => ?_))))
      rw [o86c (by omega) (by omega), c_of (by omega)] at e8
      have e8 : M8 = wr M 139 (86 * e + i) (rd M 136 i) := e8
      have ey : y = Int32.ofNat (i + 1) := ey.trans (Int32.ofNat_add i 1).symm
      rw [ey]
      have b1 : (bxS 1 i).1 ≤ (rd M 136 i).toInt ∧ (rd M 136 i).toInt ≤ (bxS 1 i).2 := h.std 136 i
      have b2 := bx10 i (by omega)
      refine IH (i + 1) M8 (by omega) (by rw [e8]; exact put139 h (by rw [show (86 * e + i) % 86 = i by omega]; omega)) (by rw [e8, rd_wk (by decide)]; exact h4) (fun k j k1 => by rw [e8, rd_wk k1]; exact hk k j k1) (fun p hp9 => ?_) (fun p hp9 => ?_) (by omega)
      · by_cases e9 : p = i
        · subst e9; rw [e8, rd_we]; exact hk 136 p (by decide)
        · rw [e8, rd_wj (by omega)]; exact hp p (by omega)
      · rw [e8, rd_wj (by omega)]; exact hq p hp9
theorem HR.row (h : HR M) (h4 : rd M 135 4 = Int32.ofNat e) (he : e < 1000) {e' : Nat} (h' : e' < e) : ∃ n m, Row n m (fun j => rd M 139 (86 * e' + j)) := h e' (by rw [h4, t_of (by omega)]; omega)
theorem rem_b50 (h : MI M) (h4 : rd M 135 4 = Int32.ofNat e) (he : e < 10) : Sf (mX7_remember_b50 135 M) (fun q => MI q.1 ∧ Out M q.1 ∧ 1 ≤ (rd q.1 135 4).toInt) := by
  unfold mX7_remember_b50
  refine Sf.mono (rem_copy (M0 := M) he 5000 0 M (by omega) h.1 h4 (fun _ _ _ => rfl) (fun p hp => absurd hp (by omega)) (fun _ _ => rfl) (by omega)) (fun q hq => ?_)
  obtain ⟨h1, h2, h3, h5, h6⟩ := hq
  obtain ⟨_, ⟨n, m, hR⟩, hH⟩ := h
  have t4 : (rd q.1 135 4).toInt = (e : Int) + 1 := by rw [h2, t_of (by omega)]; omega
  refine ⟨⟨h1, ⟨n, m, hR.of (fun j => h3 136 j (by decide) (by omega))⟩, fun e' he' => ?_⟩, h3, by omega⟩
  by_cases e9 : e' = e
  · subst e9
    exact ⟨n, m, hR.cong (fun j hj => h5 j hj)⟩
  · obtain ⟨n, m, hr⟩ := hH.row h4 (by omega) (e' := e') (by omega)
    exact ⟨n, m, hr.cong (fun j hj => h6 _ (by omega))⟩
theorem rem_shift (h : MI M0) : ∀ (fuel i : Nat) (M : Mem), 86 ≤ i → i ≤ 860 → OKm gS M → rd M0 135 4 = Int32.ofNat 10 → (∀ k j, k ≠ 139 → rd M k j = rd M0 k j) → (∀ p, p + 86 < i → rd M 139 p = rd M0 139 (p + 86)) → (∀ p, i ≤ p + 86 → rd M 139 p = rd M0 139 p) → 860 - i < fuel → Sf (mX7_remember_l12 135 fuel (Int32.ofNat i) M) (fun q => MI q.1 ∧ Out M0 q.1 ∧ 1 ≤ (rd q.1 135 4).toInt) := by
  intro fuel
  induction fuel with
  | zero => intro i M _ _ _ _ _ _ _ h; exfalso; omega
  | succ fuel IH =>
    intro i M hi hi2 hM h4 hk hp hq hf
    show Sf (mX7_remember_b12 135 (mX7_remember_l12 135 fuel) (Int32.ofNat i) M) _
    unfold mX7_remember_b12
    have ti : (Int32.ofNat i).toInt = (i : Int) := t_of (by omega)
    refine Sf.i (fun c => Sf.b (fun M11 e11 => ?_)) (fun c => ?_)
    · have c := i_le.mp c
      rw [ti, show ((860 : Int32)).toInt = 860 from rfl] at c
      rw [hk 135 4 (by decide), h4, show Int32.ofNat 10 - (1 : Int32) = Int32.ofNat 9 from by decide] at e11
      have e4 : rd M11 135 4 = Int32.ofNat 9 := by rw [e11]; exact rd_we
      have r136 : ∀ j, rd M11 136 j = rd M0 136 j := fun j => by rw [e11, rd_wk (by decide)]; exact hk 136 j (by decide)
      have o11 : Out M0 M11 := fun k j k1 k2 => by
        rw [e11, ← hk k j k1]
        by_cases k3 : k = 135
        · subst k3; exact rd_wj (by omega)
        · exact rd_wk k3
      obtain ⟨_, ⟨n, m, hR⟩, hH⟩ := h
      have h11 : MI M11 := by
        refine ⟨by rw [e11]; exact putE hM (by decide), ⟨n, m, hR.of r136⟩, fun e' he' => ?_⟩
        rw [e4, show (Int32.ofNat 9).toInt = 9 from rfl] at he'
        obtain ⟨n, m, hr⟩ := hH.row h4 (by omega) (e' := e' + 1) (by omega)
        refine ⟨n, m, hr.cong (fun j hj => ?_)⟩
        show rd M11 139 (86 * e' + j) = rd M0 139 (86 * (e' + 1) + j)
        rw [e11, rd_wk (by decide), hp _ (by omega)]
        congr 1; omega
      refine Sf.mono (rem_b50 h11 e4 (by omega)) (fun q p => ⟨p.1, fun k j k1 k2 => (p.2.1 k j k1 k2).trans (o11 k j k1 k2), p.2.2⟩)
    · have c := i_nle c
      rw [ti, show ((860 : Int32)).toInt = 860 from rfl] at c
      have n86 : ((86 : Int32)).toInt = 86 := rfl
      have es := i_sub (a := Int32.ofNat i) (b := 86) (by omega) (by omega)
      refine Sf.k (ok_in (by omega) (by omega)) (Sf.k (ok_in (by omega) (by omega)) (Sf.b (fun M16 e16 => Sf.b (fun y ey => ?_))))
      rw [c_of (by omega), i_clamp, show (Int32.ofNat i - 86).toInt.toNat = i - 86 by omega] at e16
      have e16 : M16 = wr M 139 (i - 86) (rd M 139 i) := e16
      have ey : y = Int32.ofNat (i + 1) := ey.trans (Int32.ofNat_add i 1).symm
      rw [ey]
      have b1 : (bxS 0 (i % 86)).1 ≤ (rd M 139 i).toInt ∧ (rd M 139 i).toInt ≤ (bxS 0 (i % 86)).2 := hM.std 139 i
      refine IH (i + 1) M16 (by omega) (by omega) (by rw [e16]; exact put139 hM (by rw [show (i - 86) % 86 = i % 86 by omega]; exact b1)) h4 (fun k j k1 => by rw [e16, rd_wk k1]; exact hk k j k1) (fun p hp9 => ?_) (fun p hp9 => ?_) (by omega)
      · by_cases e9 : p = i - 86
        · subst e9
          rw [e16, rd_we, hq i (by omega)]
          congr 1; omega
        · rw [e16, rd_wj e9]; exact hp p (by omega)
      · rw [e16, rd_wj (by omega)]; exact hq p (by omega)
theorem sX7_remember (h : MI M) : Sf (mX7_remember 135 M) (fun q => MI q.1 ∧ Out M q.1 ∧ 1 ≤ (rd q.1 135 4).toInt) := by
  unfold mX7_remember
  have b : (0 : Int) ≤ (rd M 135 4).toInt ∧ (rd M 135 4).toInt ≤ 10 := h.1.std 135 4
  refine Sf.i (fun c => ?_) (fun c => ?_)
  · exact rem_shift h 5000 86 M (by omega) (by omega) h.1 (c.trans (by decide)) (fun _ _ _ => rfl) (fun p hp => absurd hp (by omega)) (fun _ _ => rfl) (by omega)
  · have c := i_ne c
    rw [show ((10 : Int32)).toInt = 10 from rfl] at c
    exact rem_b50 h (o_of b.1) (by omega)
theorem Row.upd {f f' : Nat → Int32} (h : Row n m f) (q : ∀ j, j = 0 ∨ j = 52 ∨ j = 53 ∨ 54 ≤ j → f' j = f j) (h36 : 1 ≤ (f' 36).toInt) : Row n m f' := by
  obtain ⟨h0, hn, h52, hm, _, k, h53, hk, hl⟩ := h
  refine ⟨(q 0 (by omega)).trans h0, hn, (q 52 (by omega)).trans h52, hm, h36, k, (q 53 (by omega)).trans h53, hk, fun j hj => ?_⟩
  obtain ⟨b, hb, e1, e2⟩ := hl j hj
  exact ⟨b, hb, (q _ (by omega)).trans e1, e2⟩
/-- a slot that no row's shape rests on -/
theorem MI.put {j : Nat} (h : MI M) (hj : j < 54 ∧ j ≠ 0 ∧ j ≠ 52 ∧ j ≠ 53) (hv : (bxS 1 j).1 ≤ v.toInt ∧ v.toInt ≤ (bxS 1 j).2) : MI (wr M 136 j v) := by
  have h1 := put136 h.1 hv
  obtain ⟨_, ⟨n, m, hR⟩, hH⟩ := h
  refine ⟨h1, ⟨n, m, hR.upd (fun i hi => rd_wj (by omega)) ?_⟩, fun e' he' => ?_⟩
  · have b : (1 : Int) ≤ (rd (wr M 136 j v) 136 36).toInt ∧ (rd (wr M 136 j v) 136 36).toInt ≤ 60 := h1.std 136 36
    exact b.1
  · rw [rd_wk (by decide)] at he'
    obtain ⟨n, m, hr⟩ := hH e' he'
    exact ⟨n, m, hr.of (fun j => rd_wk (by decide))⟩
theorem sX7_set (h : MI M) (h1 : 0 ≤ x1.toInt ∧ x1.toInt < 54) (hj : x1.toInt ≠ 0 ∧ x1.toInt ≠ 52 ∧ x1.toInt ≠ 53) (hv : (bxS 1 x1.toInt.toNat).1 ≤ x2.toInt ∧ x2.toInt ≤ (bxS 1 x1.toInt.toNat).2) : Sf (mX7_set 135 x1 x2 M) (MP M) := by
  unfold mX7_set
  refine Sf.m (sX7_remember h) (fun M3 _ p => Sf.k (ok_in (by omega) (by omega)) (Sf.b (fun x3 _ => Sf.k (ok_in (by omega) (by omega)) (Sf.b (fun M8 e8 => Sf.ok ?_)))))
  have e8 : M8 = wr M3 136 x1.toInt.toNat x2 := e8
  have o3 : Out M M3 := p.2.1
  refine ⟨by show MI M8; rw [e8]; exact MI.put p.1 ⟨by omega, by omega, by omega, by omega⟩ hv, ?_⟩
  show rd M8 135 7 = _
  rw [e8, rd_wk (by decide)]
  exact o3 135 7 (by decide) (by omega)
theorem MP.trans {ρ σ : Type} {q : Mem × ρ} {r : σ} (h : MP M q) (h' : MP q.1 (M', r)) : MP M (M', r) := ⟨h'.1, h'.2.trans h.2⟩
theorem MP.self {ρ : Type} {r : ρ} (h : MI M) : MP M (M, r) := ⟨h, rfl⟩
theorem mp_good (h : MI M) (h1 : 0 ≤ x1.toInt ∧ x1.toInt ≤ 1) : Sf (mX7_good 135 x1 M) (fun q => MP M q ∧ zor q.2 (¬ x1.toInt = 0)) :=
  Sf.mono (fr (R := fun q => zor q.2 (¬ x1.toInt = 0)) h.1 (fun g' h' => sX7_good h' h1)) (fun q hq => ⟨MP.of2 h (OKm.w2 hq.1) hq.2.1.k2, hq.2.2⟩)
theorem mp_good_ (h : MI M) : Sf (mX7_good_ 135 x1 x2 M) (fun q => MP M q ∧ zor q.2 (¬ x1.toInt = 0 ∧ ¬ x2.toInt = 0)) :=
  Sf.mono (fr (R := fun q => zor q.2 (¬ x1.toInt = 0 ∧ ¬ x2.toInt = 0)) h.1 (fun g' h' => sX7_good_ h')) (fun q hq => ⟨MP.of2 h (OKm.w2 hq.1) hq.2.1.k2, hq.2.2⟩)
theorem mp_good__ (h : MI M) : Sf (mX7_good__ 135 x1 x2 x3 M) (fun q => MP M q ∧ Keep M q.1 ∧ zor q.2 (¬ x1.toInt = 0 ∧ ¬ x2.toInt = 0 ∧ ¬ x3.toInt = 0)) :=
  Sf.mono (fr (R := fun q => zor q.2 (¬ x1.toInt = 0 ∧ ¬ x2.toInt = 0 ∧ ¬ x3.toInt = 0)) h.1 (fun g' h' => sX7_good__ h')) (fun q hq => ⟨MP.of2 h (OKm.w2 hq.1) hq.2.1.k2, hq.2.1, hq.2.2⟩)
theorem bx_leg : ∀ j, j < 9 → bxS 1 (2 + j) = (0, 9999) := by decide
theorem bx_up : ∀ j, j < 8 → bxS 1 (11 + j) = (0, 1) := by decide
theorem bx_tool : ∀ j, j < 5 → bxS 1 (39 + 2 * j) = (0, 9999) ∧ bxS 1 (39 + 2 * j + 1) = (0, 9999) := by decide
theorem sX7_setLeg (h : MI M) : Sf (mX7_setLeg 135 x1 x2 M) (MP M) := by
  unfold mX7_setLeg
  have b30 : ∀ r2 r5 y3 : Int32, zor r2 (0 ≤ x1.toInt ∧ x1.toInt ≤ 8) → zor r5 (1 ≤ x2.toInt ∧ x2.toInt ≤ 9999) → Sf (mX7_setLeg_b30 135 x1 x2 r2 r5 y3 M) (MP M) := by
    intro r2 r5 y3 p2 p5
    unfold mX7_setLeg_b30
    refine Sf.m (mp_good__ h) (fun M11 r10 p => Sf.i (fun _ => Sf.ok p.1) (fun c => ?_))
    have q := p.2.2.2.resolve_left (i_ne c)
    have h1 := p2.2.resolve_left q.1
    have h2 := p5.2.resolve_left q.2.1
    have n2 : ((2 : Int32)).toInt = 2 := rfl
    have e := i_add (a := (2 : Int32)) (b := x1) (by omega) (by omega)
    refine Sf.m (sX7_set (x1 := (2 : Int32) + x1) (x2 := x2) p.1.1 (by omega) (by omega) ?_) (fun M15 r14 p15 => Sf.ok (MP.trans p.1 p15))
    rw [show ((2 : Int32) + x1).toInt.toNat = 2 + x1.toInt.toNat by omega, bx_leg _ (by omega)]
    exact ⟨by show (0 : Int) ≤ _; omega, h2.2⟩
  refine Sf.c (sX7_isLeg h.1) (fun r2 p2 => Sf.c (sX7_between (Int32.toInt_toInt64 _) (b := 1) (by decide) (c := 9999) (by decide)) (fun r5 p5 => Sf.k (by decide) (Sf.i (fun _ => b30 _ _ _ ⟨p2.1, p2.2.imp id (fun q => ⟨q.1, q.2.2⟩)⟩ p5) (fun _ => b30 _ _ _ ⟨p2.1, p2.2.imp id (fun q => ⟨q.1, q.2.2⟩)⟩ p5))))
theorem sX7_setDirection (h : MI M) : Sf (mX7_setDirection 135 x1 x2 M) (MP M) := by
  unfold mX7_setDirection
  have b21 : ∀ r2 y : Int32, zor r2 (0 ≤ x1.toInt ∧ x1.toInt ≤ 7) → Sf (mX7_setDirection_b21 135 x1 x2 r2 y M) (MP M) := by
    intro r2 y p2
    unfold mX7_setDirection_b21
    refine Sf.m (mp_good_ h) (fun M8 r7 p => Sf.i (fun _ => Sf.ok p.1) (fun c => ?_))
    have q := p.2.2.resolve_left (i_ne c)
    have h1 := p2.2.resolve_left q.1
    have n11 : ((11 : Int32)).toInt = 11 := rfl
    have e := i_add (a := (11 : Int32)) (b := x1) (by omega) (by omega)
    have b41 : ∀ y2 : Int32, 0 ≤ y2.toInt ∧ y2.toInt ≤ 1 → Sf (mX7_setDirection_b41 135 ((11 : Int32) + x1) y2 M8) (MP M) := by
      intro y2 hy
      unfold mX7_setDirection_b41
      refine Sf.m (sX7_set (x1 := (11 : Int32) + x1) (x2 := y2) p.1.1 (by omega) (by omega) ?_) (fun M13 r12 p13 => Sf.i (fun _ => Sf.ok (MP.trans p.1 ⟨p13.1, p13.2⟩)) (fun _ => Sf.ok (MP.trans p.1 ⟨p13.1, p13.2⟩)))
      rw [show ((11 : Int32) + x1).toInt.toNat = 11 + x1.toInt.toNat by omega, bx_up _ (by omega)]
      exact hy
    exact Sf.i (fun _ => b41 0 (by decide)) (fun _ => b41 1 (by decide))
  refine Sf.c (sX7_isBend h.1) (fun r2 p2 => Sf.k (by decide) (Sf.i (fun _ => b21 _ _ ⟨p2.1, p2.2.imp id (fun q => ⟨q.1, q.2.2⟩)⟩) (fun _ => b21 _ _ ⟨p2.1, p2.2.imp id (fun q => ⟨q.1, q.2.2⟩)⟩)))
theorem sX7_areTold : Sf (mX7_areTold x1 x2 x3 M) (fun r => zor r ((0 ≤ x1.toInt ∧ x1.toInt ≤ 4) ∧ (0 ≤ x2.toInt ∧ x2.toInt ≤ 9999) ∧ (0 ≤ x3.toInt ∧ x3.toInt ≤ 9999))) := by
  have z0 : ∀ P : Prop, zor (0 : Int32) P := fun _ => ⟨by decide, Or.inl rfl⟩
  have b48 : (0 ≤ x1.toInt ∧ x1.toInt ≤ 4) ∧ (0 ≤ x2.toInt ∧ x2.toInt ≤ 9999) → Sf (mX7_areTold_b48 M x3) (fun r => zor r ((0 ≤ x1.toInt ∧ x1.toInt ≤ 4) ∧ (0 ≤ x2.toInt ∧ x2.toInt ≤ 9999) ∧ (0 ≤ x3.toInt ∧ x3.toInt ≤ 9999))) := by
    intro h
    unfold mX7_areTold_b48
    exact Sf.c (sX7_between (Int32.toInt_toInt64 _) (b := 0) (by decide) (c := 9999) (by decide)) (fun r p => Sf.k (zor_isB p) (Sf.ok ⟨p.1, p.2.imp id (fun q => ⟨h.1, h.2, q⟩)⟩))
  unfold mX7_areTold
  refine Sf.c (sX7_between (Int32.toInt_toInt64 _) (b := 0) (by decide) (c := 9999) (by decide)) (fun r2 p2 => Sf.i (fun _ => Sf.ok (z0 _)) (fun c2 => ?_))
  have h2 := p2.2.resolve_left (i_ne c2)
  refine Sf.i (fun e => b48 ⟨by rw [e]; decide, h2⟩) (fun _ => Sf.i (fun e => b48 ⟨by rw [e]; decide, h2⟩) (fun _ => Sf.i (fun e => b48 ⟨by rw [e]; decide, h2⟩) (fun _ => Sf.i (fun e => ?_) (fun _ => Sf.i (fun e => ?_) (fun _ => Sf.ok (z0 _))))))
  · refine Sf.c (sX7_between (Int32.toInt_toInt64 _) (Int32.toInt_toInt64 _) (c := 9999) (by decide)) (fun r p => Sf.k (zor_isB p) (Sf.ok ⟨p.1, p.2.imp id (fun q => ⟨by rw [e]; decide, h2, ?_⟩)⟩))
    omega
  · refine Sf.i (fun e0 => Sf.ok ⟨by decide, Or.inr ⟨by rw [e]; decide, h2, by rw [e0]; decide⟩⟩) (fun _ => Sf.ok (z0 _))
theorem sX7_setTool (h : MI M) : Sf (mX7_setTool 135 x1 x2 x3 M) (MP M) := by
  unfold mX7_setTool
  refine Sf.c sX7_areTold (fun r2 p2 => Sf.m (mp_good h p2.1) (fun M6 r5 p => Sf.i (fun _ => Sf.ok p.1) (fun c => ?_)))
  obtain ⟨h1, h2, h3⟩ := p2.2.resolve_left (p.2.2.resolve_left (i_ne c))
  have n39 : ((39 : Int32)).toInt = 39 := rfl
  have n1 : ((1 : Int32)).toInt = 1 := rfl
  have e1 := i_mulc (a := (2 : Int32)) (b := x1) (c := 2) rfl (by omega) (by omega)
  have e2 := i_add (a := (39 : Int32)) (b := (2 : Int32) * x1) (by omega) (by omega)
  have e3 := i_add (a := (39 : Int32) + (2 : Int32) * x1) (b := (1 : Int32)) (by omega) (by omega)
  have bt := bx_tool x1.toInt.toNat (by omega)
  refine Sf.m (sX7_set (x1 := (39 : Int32) + (2 : Int32) * x1) (x2 := x2) p.1.1 (by omega) (by omega) ?_) (fun M10 r9 p10 => Sf.k (ok_in (by omega) (by omega)) (Sf.b (fun M13 e13 => Sf.ok ?_)))
  · rw [show ((39 : Int32) + (2 : Int32) * x1).toInt.toNat = 39 + 2 * x1.toInt.toNat by omega, bt.1]
    exact h2
  · have e13 : M13 = wr M10 136 ((39 : Int32) + (2 : Int32) * x1 + (1 : Int32)).toInt.toNat x3 := e13
    rw [show ((39 : Int32) + (2 : Int32) * x1 + (1 : Int32)).toInt.toNat = 39 + 2 * x1.toInt.toNat + 1 by omega] at e13
    refine MP.trans p.1 ⟨by show MI M13; rw [e13]; exact MI.put p10.1 ⟨by omega, by omega, by omega, by omega⟩ (by rw [bt.2]; exact h3), ?_⟩
    show rd M13 135 7 = _
    rw [e13, rd_wk (by decide)]
    exact p10.2
theorem sX7_setSheet (h : MI M) : Sf (mX7_setSheet 135 x1 x2 x3 M) (MP M) := by
  have no : Sf (mX7_setSheet_b41 135 x1 x2 x3 M) (MP M) := by
    unfold mX7_setSheet_b41 mX7_setSheet_b42
    refine Sf.m (mp_good h (by decide)) (fun M7 r6 p => Sf.i (fun _ => Sf.ok p.1) (fun c => absurd (p.2.2.resolve_left (i_ne c)) (by decide)))
  unfold mX7_setSheet
  refine Sf.c (sX7_between (Int32.toInt_toInt64 _) (b := 1) (by decide) (c := 60) (by decide)) (fun r2 p2 => Sf.i (fun _ => no) (fun c2 => Sf.c (sX7_between (Int32.toInt_toInt64 _) (b := 0) (by decide) (c := 200) (by decide)) (fun r19 p19 => Sf.i (fun _ => no) (fun c19 => Sf.c (sX7_between (Int32.toInt_toInt64 _) (b := 0) (by decide) (c := 100) (by decide)) (fun r23 p23 => Sf.i (fun _ => no) (fun c23 => ?_))))))
  have h1 := p2.2.resolve_left (i_ne c2)
  have h2 := p19.2.resolve_left (i_ne c19)
  have h3 := p23.2.resolve_left (i_ne c23)
  unfold mX7_setSheet_b42
  refine Sf.m (mp_good h (by decide)) (fun M7 r6 p => Sf.i (fun _ => Sf.ok p.1) (fun _ => Sf.m (sX7_set (x1 := (36 : Int32)) (x2 := x1) p.1.1 (by decide) (by decide) h1) (fun M11 r10 p11 => Sf.k (by decide) (Sf.b (fun M14 e14 => Sf.k (by decide) (Sf.b (fun M17 e17 => Sf.ok ?_)))))))
  have e14 : M14 = wr M11 136 37 x2 := e14
  have e17 : M17 = wr M14 136 38 x3 := e17
  have h14 : MI M14 := by rw [e14]; exact MI.put p11.1 (by decide) h2
  refine MP.trans p.1 ⟨by show MI M17; rw [e17]; exact MI.put h14 (by decide) h3, ?_⟩
  show rd M17 135 7 = _
  rw [e17, rd_wk (by decide), e14, rd_wk (by decide)]
  exact p11.2
theorem sX7_setCost (h : MI M) : Sf (mX7_setCost 135 x1 x2 x3 M) (MP M) := by
  have no : Sf (mX7_setCost_b41 135 x1 x2 x3 M) (MP M) := by
    unfold mX7_setCost_b41 mX7_setCost_b42
    refine Sf.m (mp_good h (by decide)) (fun M7 r6 p => Sf.i (fun _ => Sf.ok p.1) (fun c => absurd (p.2.2.resolve_left (i_ne c)) (by decide)))
  unfold mX7_setCost
  refine Sf.c (sX7_between (Int32.toInt_toInt64 _) (b := 0) (by decide) (c := 99) (by decide)) (fun r2 p2 => Sf.i (fun _ => no) (fun c2 => Sf.c (sX7_between (Int32.toInt_toInt64 _) (b := 0) (by decide) (c := 99) (by decide)) (fun r19 p19 => Sf.i (fun _ => no) (fun c19 => Sf.c (sX7_between (Int32.toInt_toInt64 _) (b := 0) (by decide) (c := 99) (by decide)) (fun r23 p23 => Sf.i (fun _ => no) (fun c23 => ?_))))))
  have h1 := p2.2.resolve_left (i_ne c2)
  have h2 := p19.2.resolve_left (i_ne c19)
  have h3 := p23.2.resolve_left (i_ne c23)
  unfold mX7_setCost_b42
  refine Sf.m (mp_good h (by decide)) (fun M7 r6 p => Sf.i (fun _ => Sf.ok p.1) (fun _ => Sf.m (sX7_set (x1 := (49 : Int32)) (x2 := x1) p.1.1 (by decide) (by decide) h1) (fun M11 r10 p11 => Sf.k (by decide) (Sf.b (fun M14 e14 => Sf.k (by decide) (Sf.b (fun M17 e17 => Sf.ok ?_)))))))
  have e14 : M14 = wr M11 136 50 x2 := e14
  have e17 : M17 = wr M14 136 51 x3 := e17
  have h14 : MI M14 := by rw [e14]; exact MI.put p11.1 (by decide) h2
  refine MP.trans p.1 ⟨by show MI M17; rw [e17]; exact MI.put h14 (by decide) h3, ?_⟩
  show rd M17 135 7 = _
  rw [e17, rd_wk (by decide), e14, rd_wk (by decide)]
  exact p11.2
/-! undo, unfold -/
theorem undo_l (h : OKm gS M0) (he : e < 10) (h4 : rd M0 135 4 = Int32.ofNat e) (hr : Row n m (fun j => rd M0 139 (86 * e + j))) : ∀ (fuel i : Nat) (M : Mem), i ≤ 86 → OKm gS M → (∀ k j, k ≠ 136 → rd M k j = rd M0 k j) → (∀ p, p < i → rd M 136 p = rd M0 139 (86 * e + p)) → 86 - i < fuel → Sf (mX7_undo_l26 135 fuel (Int32.ofNat i) M) (fun q => OKm gS q.1 ∧ (∀ k j, k ≠ 136 → rd q.1 k j = rd M0 k j) ∧ ∀ p, p < 86 → rd q.1 136 p = rd M0 139 (86 * e + p)) := by
  intro fuel
  induction fuel with
  | zero => intro i M _ _ _ _ h; exfalso; omega
  | succ fuel IH =>
    intro i M hi hM hk hp hf
    show Sf (mX7_undo_b26 135 (mX7_undo_l26 135 fuel) (Int32.ofNat i) M) _
    unfold mX7_undo_b26
    have ti : (Int32.ofNat i).toInt = (i : Int) := t_of (by omega)
    rw [hk 135 4 (by decide), h4]
    refine Sf.i (fun c => Sf.ok ?_) (fun c => ?_)
    · have c := i_le.mp c
      rw [ti, show ((86 : Int32)).toInt = 86 from rfl] at c
      exact ⟨hM, hk, fun p h9 => hp p (by omega)⟩
    · have c := i_nle c
      rw [ti, show ((86 : Int32)).toInt = 86 from rfl] at c
      refine Sf.k (ok_in (by rw [o86 (by omega) (by omega)]; omega) (by rw [o86 (by omega) (by omega)]; omega)) (Sf.k (ok_in (by omega) (by omega)) (Sf.b (fun M10 e10 => Sf.b (fun y ey => ?_))))
      rw [o86c (by omega) (by omega), c_of (by omega)] at e10
      have e10 : M10 = wr M 136 i (rd M 139 (86 * e + i)) := e10
      have ey : y = Int32.ofNat (i + 1) := ey.trans (Int32.ofNat_add i 1).symm
      rw [ey]
      have b1 : (bxS 0 ((86 * e + i) % 86)).1 ≤ (rd M 139 (86 * e + i)).toInt ∧ (rd M 139 (86 * e + i)).toInt ≤ (bxS 0 ((86 * e + i) % 86)).2 := hM.std 139 (86 * e + i)
      rw [show (86 * e + i) % 86 = i by omega] at b1
      have b2 : (bxS 1 i).1 ≤ (rd M 139 (86 * e + i)).toInt ∧ (rd M 139 (86 * e + i)).toInt ≤ (bxS 1 i).2 := by
        by_cases e9 : i = 36
        · subst e9
          have h36 := hr.2.2.2.2.1
          rw [hk 139 _ (by decide)] at b1 ⊢
          exact ⟨h36, b1.2⟩
        · have key : ∀ i, i < 86 → i ≠ 36 → bxS 1 i = bxS 0 i := by decide
          rw [key i (by omega) e9]; exact b1
      refine IH (i + 1) M10 (by omega) (by rw [e10]; exact put136 hM b2) (fun k j k1 => by rw [e10, rd_wk k1]; exact hk k j k1) (fun p hp9 => ?_) (by omega)
      by_cases e9 : p = i
      · subst e9; rw [e10, rd_we]; exact hk 139 _ (by decide)
      · rw [e10, rd_wj e9]; exact hp p (by omega)
theorem MI.th (h : MI M) : MI (wr M 135 5 v) ∧ rd (wr M 135 5 v) 135 7 = rd M 135 7 := by
  have := MP.of2 (r := ()) h (OKm.w2 (th_put h.1 (v := v))) (fun k j h1 _ => ?_)
  · exact ⟨this.1, this.2⟩
  · by_cases k1 : k = 135
    · subst k1; exact rd_wj (fun e => h1 (by unfold W1; omega))
    · exact rd_wk k1
theorem sX7_undo (h : MI M) : Sf (mX7_undo 135 M) (MP M) := by
  unfold mX7_undo
  refine Sf.b (fun M1 e1 => ?_)
  have h1 : MI M1 := by rw [e1]; exact h.th.1
  have k1 : rd M1 135 7 = rd M 135 7 := by rw [e1]; exact h.th.2
  have b : (0 : Int) ≤ (rd M1 135 4).toInt ∧ (rd M1 135 4).toInt ≤ 10 := h1.1.std 135 4
  refine Sf.i (fun _ => Sf.ok ⟨h1, k1⟩) (fun c => Sf.b (fun M4 e4 => ?_))
  have c := i_ne c
  rw [show ((0 : Int32)).toInt = 0 from rfl] at c
  have n1 : ((1 : Int32)).toInt = 1 := rfl
  have es := i_sub (a := rd M1 135 4) (b := 1) (by omega) (by omega)
  obtain ⟨e, ee⟩ : ∃ e : Nat, (e : Int) = (rd M1 135 4).toInt - 1 := ⟨((rd M1 135 4).toInt - 1).toNat, by omega⟩
  have h4 : rd M4 135 4 = Int32.ofNat e := by
    rw [e4, rd_we]
    apply i_eq.mpr
    rw [es, t_of (by omega)]; omega
  have o4 : OKm gS M4 := by rw [e4]; exact putE h1.1 (by omega)
  have k4 : ∀ k j, k ≠ 135 → rd M4 k j = rd M1 k j := fun k j hk => by rw [e4]; exact rd_wk hk
  obtain ⟨n, m, hr⟩ := h1.2.2 e (by omega)
  have hr4 : Row n m (fun j => rd M4 139 (86 * e + j)) := hr.of (fun j => k4 139 _ (by decide))
  refine Sf.mono (undo_l o4 (by omega) h4 hr4 5000 0 M4 (by omega) o4 (fun _ _ _ => rfl) (fun p hp => absurd hp (by omega)) (by omega)) (fun q hq => ?_)
  refine ⟨⟨hq.1, ⟨n, m, hr4.cong (fun j hj => hq.2.2 j hj)⟩, fun e' he' => ?_⟩, ?_⟩
  · rw [hq.2.1 135 4 (by decide), h4, t_of (by omega)] at he'
    obtain ⟨n, m, hr'⟩ := h1.2.2 e' (by omega)
    exact ⟨n, m, hr'.of (fun j => (hq.2.1 139 _ (by decide)).trans (k4 139 _ (by decide)))⟩
  · rw [hq.2.1 135 7 (by decide), e4, rd_wj (by decide)]; exact k1
theorem cntz0 : ∀ n, cntz 0 n = n := by
  intro n
  induction n with
  | zero => rfl
  | succ n ih =>
    show cntz 0 n + (if (0 : Nat).testBit n then 1 - 1 else 1) = n + 1
    rw [ih, Nat.zero_testBit]; rfl
theorem unfold_l : ∀ (fuel i : Nat) (M : Mem), 54 ≤ i → i ≤ 86 → OKm gS M → (∀ k j, ¬ (k = 136 ∧ 54 ≤ j) → rd M k j = rd M0 k j) → 86 - i < fuel → Sf (mX7_unfold_l36 135 fuel x1 (Int32.ofNat i) M) (fun q => OKm gS q.1 ∧ ∀ k j, ¬ (k = 136 ∧ 54 ≤ j) → rd q.1 k j = rd M0 k j) := by
  intro fuel
  induction fuel with
  | zero => intro i M _ _ _ _ h; exfalso; omega
  | succ fuel IH =>
    intro i M hi hi2 hM hk hf
    show Sf (mX7_unfold_b36 135 (mX7_unfold_l36 135 fuel) x1 (Int32.ofNat i) M) _
    unfold mX7_unfold_b36
    have ti : (Int32.ofNat i).toInt = (i : Int) := t_of (by omega)
    refine Sf.i (fun _ => Sf.ok ⟨hM, hk⟩) (fun c => ?_)
    have c := i_nle c
    rw [ti, show ((86 : Int32)).toInt = 86 from rfl] at c
    refine Sf.k (ok_in (by omega) (by omega)) (Sf.b (fun M17 e17 => Sf.b (fun y ey => ?_)))
    rw [c_of (by omega)] at e17
    have ey : y = Int32.ofNat (i + 1) := ey.trans (Int32.ofNat_add i 1).symm
    rw [ey]
    have key : ∀ i, i < 86 → 54 ≤ i → (bxS 1 i).1 ≤ 0 ∧ 0 ≤ (bxS 1 i).2 := by decide
    refine IH (i + 1) M17 (by omega) (by omega) (by rw [e17]; exact put136 hM (key i (by omega) hi)) (fun k j k1 => ?_) (by omega)
    rw [e17, ← hk k j k1]
    by_cases k3 : k = 136
    · subst k3; exact rd_wj (by omega)
    · exact rd_wk k3
theorem sX7_unfold (h : MI M) : Sf (mX7_unfold 135 M) (MP M) := by
  unfold mX7_unfold
  refine Sf.b (fun M1 e1 => ?_)
  have h1 : MI M1 := by rw [e1]; exact h.th.1
  have k1 : rd M1 135 7 = rd M 135 7 := by rw [e1]; exact h.th.2
  refine Sf.m (sX7_remember h1) (fun M5 _ p => Sf.k (by decide) (Sf.b (fun x _ => Sf.k (by decide) (Sf.b (fun M10 e10 => Sf.k (by decide) (Sf.b (fun M13 e13 => ?_)))))))
  have e10 : M10 = wr M5 136 53 0 := e10
  have e13 : M13 = wr M10 136 52 0 := e13
  have h5 : MI M5 := p.1
  have o5 : Out M1 M5 := p.2.1
  have o13 : OKm gS M13 := by rw [e13, e10]; exact put136 (put136 h5.1 (by decide)) (by decide)
  refine Sf.mono (unfold_l (M0 := M13) 5000 54 M13 (by omega) (by omega) o13 (fun _ _ _ => rfl) (by omega)) (fun q hq => ?_)
  obtain ⟨_, ⟨n, m, hR⟩, hH⟩ := h5
  have r136 : ∀ j, j < 52 → rd q.1 136 j = rd M5 136 j := fun j hj => by rw [hq.2 136 j (by omega), e13, rd_wj (by omega), e10, rd_wj (by omega)]
  have r52 : rd q.1 136 52 = Int32.ofNat 0 := by rw [hq.2 136 52 (by omega), e13, rd_we]; rfl
  have r53 : rd q.1 136 53 = Int32.ofNat 0 := by rw [hq.2 136 53 (by omega), e13, rd_wj (by decide), e10, rd_we]; rfl
  have ro : ∀ k j, k ≠ 136 → rd q.1 k j = rd M5 k j := fun k j hk => by rw [hq.2 k j (by omega), e13, rd_wk hk, e10, rd_wk hk]
  refine ⟨⟨hq.1, ⟨n, 0, ?_⟩, fun e' he' => ?_⟩, ?_⟩
  · have hp := z_pow n hR.2.1
    refine ⟨(r136 0 (by omega)).trans hR.1, hR.2.1, r52, by omega, by rw [r136 36 (by omega)]; exact hR.2.2.2.2.1, 0, r53, by rw [cntz0]; omega, fun j hj => absurd hj (by omega)⟩
  · rw [ro 135 4 (by decide)] at he'
    obtain ⟨n, m, hr⟩ := hH e' he'
    exact ⟨n, m, hr.of (fun j => ro 139 _ (by decide))⟩
  · rw [ro 135 7 (by decide), o5 135 7 (by decide) (by omega)]; exact k1
end EG
end
/-! part 59h.fold -/
section
/-! fold, foldNext, costIfTurned, greatestBeam -/
section FH
variable {M M' : Mem} {n m b : Nat} {x1 x2 : Int32}
theorem bx_st : ∀ k, k < 8 → bxS 1 (54 + 4 * k) = (0, 7) ∧ bxS 1 (55 + 4 * k) = (0, 1) ∧ bxS 1 (56 + 4 * k) = bT ∧ bxS 1 (57 + 4 * k) = (0, 297) := by decide
theorem sX7_foldNow (h : MI M) (hR : Row n m (rd M 136)) (hb : b < n) (ht : m.testBit b = false) (h2 : 0 ≤ x2.toInt ∧ x2.toInt ≤ 1) : Sf (mX7_foldNow 135 (Int32.ofNat b) x2 M) (MP M) := by
  have hn := hR.2.1
  have hp := z_pow n hn
  have hm := hR.2.2.2.1
  have tb : (Int32.ofNat b).toInt = (b : Int) := t_of (by omega)
  unfold mX7_foldNow
  refine Sf.m (fr (R := fun q => 0 ≤ q.2.toInt ∧ q.2.toInt ≤ 297) h.1 (fun g' h' => sX7_costNow h' (by omega) h2)) (fun M3 r2 p3 => ?_)
  have k3 : Keep M M3 := p3.2.1
  have c2 : 0 ≤ r2.toInt ∧ r2.toInt ≤ 297 := p3.2.2
  have h3 : MI M3 := (MP.of2 (r := ()) h (OKm.w2 p3.1) k3.k2).1
  have q3 : rd M3 135 7 = rd M 135 7 := (MP.of2 (r := ()) h (OKm.w2 p3.1) k3.k2).2
  have R3 : Row n m (rd M3 136) := hR.keep2 k3.k2
  refine Sf.k (by decide) ?_
  show Sf (cal (mX7_gaugeOf 135 (Int32.ofNat b) x2 (rd M3 136 52) M3) _) _
  rw [R3.2.2.1]
  refine Sf.m (fr (R := fun _ => True) h3.1 (fun g' h' => Sf.mono (sX7_gaugeOf h' (x1 := Int32.ofNat b) (x2 := x2) (x3 := Int32.ofNat m) (by omega) h2 (by rw [t_of (by omega)]; omega)) (fun q hq => ⟨hq.1, trivial⟩))) (fun M7 r6 p7 => ?_)
  have k7 : Keep M3 M7 := p7.2.1
  have h7 := MP.of2 (r := ()) h3 (OKm.w2 p7.1) k7.k2
  have R7 : Row n m (rd M7 136) := R3.keep2 k7.k2
  refine Sf.m (sX7_remember h7.1) (fun M10 _ p10 => ?_)
  have h10 : MI M10 := p10.1
  have o10 : Out M7 M10 := p10.2.1
  have q10 : rd M10 135 7 = rd M 135 7 := (o10 135 7 (by decide) (by omega)).trans (h7.2.trans q3)
  have R10 : Row n m (rd M10 136) := R7.of (fun j => o10 136 j (by decide) (by omega))
  obtain ⟨e0, _, e52, _, e36, k, e53, hk, hl⟩ := R10
  have hz := z_set n hn m hm b hb ht
  have hk8 : k < 8 := by omega
  have bx := bx_st k hk8
  have t54 : ((54 : Int32) + ((4 : Int32) * Int32.ofNat k)).toInt = 54 + 4 * (k : Int) := by
    have tk : (Int32.ofNat k).toInt = (k : Int) := t_of (by omega)
    have a := i_mulc (a := (4 : Int32)) (b := Int32.ofNat k) (c := 4) rfl (by omega) (by omega)
    rw [i_add (by rw [show ((54 : Int32)).toInt = 54 from rfl]; omega) (by rw [show ((54 : Int32)).toInt = 54 from rfl]; omega), a, show ((54 : Int32)).toInt = 54 from rfl]
    omega
  refine Sf.k (by decide) (Sf.b (fun x5 e5 => ?_))
  have e5 : x5 = (54 : Int32) + ((4 : Int32) * rd M10 136 53) := e5
  rw [e53] at e5
  have t5 : x5.toInt = 54 + 4 * (k : Int) := by rw [e5]; exact t54
  have n1 : ((1 : Int32)).toInt = 1 := rfl
  have n2 : ((2 : Int32)).toInt = 2 := rfl
  have n3 : ((3 : Int32)).toInt = 3 := rfl
  have t6 := i_add (a := x5) (b := 1) (by omega) (by omega)
  have t7 := i_add (a := x5) (b := 2) (by omega) (by omega)
  have t8 := i_add (a := x5) (b := 3) (by omega) (by omega)
  have c5 : x5.toNatClampNeg = 54 + 4 * k := by rw [i_clamp]; omega
  have c6 : (x5 + 1).toNatClampNeg = 55 + 4 * k := by rw [i_clamp]; omega
  have c7 : (x5 + 2).toNatClampNeg = 56 + 4 * k := by rw [i_clamp]; omega
  have c8 : (x5 + 3).toNatClampNeg = 57 + 4 * k := by rw [i_clamp]; omega
  rw [c5, c6, c7, c8]
  refine Sf.k (ok_in (by omega) (by omega)) (Sf.b (fun M15 e15 => Sf.k (ok_in (by omega) (by omega)) (Sf.b (fun M18 e18 => Sf.k (ok_in (by omega) (by omega)) (Sf.b (fun M21 e21 => Sf.k (ok_in (by omega) (by omega)) (Sf.b (fun M24 e24 => Sf.k (by decide) (Sf.k (by decide) (Sf.b (fun M28 e28 => Sf.k (by decide) (Sf.k (by decide) (Sf.b (fun M32 e32 => Sf.ok ?_))))))))))))))
  have e15 : M15 = wr M10 136 (54 + 4 * k) (Int32.ofNat b) := e15
  have e18 : M18 = wr M15 136 (55 + 4 * k) x2 := e18
  have e21 : M21 = wr M18 136 (56 + 4 * k) r6 := e21
  have e24 : M24 = wr M21 136 (57 + 4 * k) r2 := e24
  have e28 : M28 = wr M24 136 53 (rd M24 136 53 + 1) := e28
  have e32 : M32 = wr M28 136 52 (rd M28 136 52 ||| ((1 : Int32) <<< (Int32.ofNat b &&& 31))) := e32
  have r24 : ∀ j, j < 54 → rd M24 136 j = rd M10 136 j := fun j hj => by rw [e24, rd_wj (by omega), e21, rd_wj (by omega), e18, rd_wj (by omega), e15, rd_wj (by omega)]
  have v53 : rd M24 136 53 + 1 = Int32.ofNat (k + 1) := by rw [r24 53 (by omega), e53]; exact (Int32.ofNat_add k 1).symm
  rw [v53] at e28
  have v52 : (rd M28 136 52 ||| ((1 : Int32) <<< (Int32.ofNat b &&& 31))) = Int32.ofNat (m ||| 2 ^ b) := by
    rw [e28, rd_wj (by decide), r24 52 (by omega), e52]
    exact f_or m (by omega) b (by omega)
  rw [v52] at e32
  have o15 : OKm gS M15 := by rw [e15]; exact put136 h10.1 (by rw [bx.1]; exact ⟨by show (0 : Int) ≤ _; omega, by show _ ≤ (7 : Int); omega⟩)
  have o18 : OKm gS M18 := by rw [e18]; exact put136 o15 (by rw [bx.2.1]; exact h2)
  have o21 : OKm gS M21 := by rw [e21]; exact put136 o18 (by rw [bx.2.2.1]; exact i_rng _)
  have o24 : OKm gS M24 := by rw [e24]; exact put136 o21 (by rw [bx.2.2.2]; exact c2)
  have o28 : OKm gS M28 := by rw [e28]; exact put136 o24 (by rw [t_of (by omega)]; exact ⟨by show (0 : Int) ≤ _; omega, by show _ ≤ (8 : Int); omega⟩)
  have o32 : OKm gS M32 := by rw [e32]; exact put136 o28 (by rw [t_of (by omega)]; exact ⟨by show (0 : Int) ≤ _; omega, by show _ ≤ (255 : Int); omega⟩)
  have ro : ∀ k' j, k' ≠ 136 → rd M32 k' j = rd M10 k' j := fun k' j hk' => by rw [e32, rd_wk hk', e28, rd_wk hk', e24, rd_wk hk', e21, rd_wk hk', e18, rd_wk hk', e15, rd_wk hk']
  have rl' : ∀ j, j < 52 → rd M32 136 j = rd M10 136 j := fun j hj => by rw [e32, rd_wj (by omega), e28, rd_wj (by omega)]; exact r24 j (by omega)
  refine ⟨⟨o32, ⟨n, m ||| 2 ^ b, ?_⟩, fun e' he' => ?_⟩, ?_⟩
  · refine ⟨(rl' 0 (by omega)).trans e0, hn, by show rd M32 136 52 = _; rw [e32, rd_we], hz.2.2.1, by show 1 ≤ (rd M32 136 36).toInt; rw [rl' 36 (by omega)]; exact e36, k + 1, by show rd M32 136 53 = _; rw [e32, rd_wj (by decide), e28, rd_we], by omega, fun j hj => ⟨b, hb, ?_, hz.2.2.2⟩⟩
    have : j = k := by omega
    subst this
    show rd M32 136 (54 + 4 * j) = _
    rw [e32, rd_wj (by omega), e28, rd_wj (by omega), e24, rd_wj (by omega), e21, rd_wj (by omega), e18, rd_wj (by omega), e15, rd_we]
  · rw [ro 135 4 (by decide)] at he'
    obtain ⟨n, m, hr⟩ := h10.2.2 e' he'
    exact ⟨n, m, hr.of (fun j => ro 139 _ (by decide))⟩
  · show rd M32 135 7 = _
    rw [ro 135 7 (by decide)]; exact q10
theorem sX7_fold (h : MI M) : Sf (mX7_fold 135 x1 x2 M) (MP M) := by
  obtain ⟨n, m, hR⟩ := h.2.1
  have hn := hR.2.1
  have hp := z_pow n hn
  have hm := hR.2.2.2.1
  have no : ∀ (y1 y2 : Int32) (M : Mem), MI M → Sf (mX7_fold_b46 135 x1 x2 y1 y2 (0 : Int32) M) (MP M) := by
    intro y1 y2 M h
    unfold mX7_fold_b46
    refine Sf.m (mp_good__ h) (fun M10 r9 p => Sf.i (fun _ => Sf.ok p.1) (fun c => ?_))
    exact absurd rfl (p.2.2.2.resolve_left (i_ne c)).2.2
  unfold mX7_fold mX7_fold_b45
  refine Sf.c (sX7_isBend h.1) (fun r2 p2 => Sf.c sX7_isSide (fun r5 p5 => Sf.i (fun _ => no _ _ M h) (fun c2 => Sf.i (fun _ => no _ _ M h) (fun c5 => Sf.k (by decide) ?_))))
  have hb := p2.2.resolve_left (i_ne c2)
  have hs := p5.2.resolve_left (i_ne c5)
  have hb0 : x1.toInt ≤ (rd M 136 0).toInt - 1 := hb.2.1
  rw [hR.1, t_of (by omega)] at hb0
  have e1 := o_of (x := x1) hb.1
  have e2 := o_of (x := x2) hs.1
  show Sf (cal (mX7_reasonOf 135 x1 x2 (rd M 136 52) M) _) _
  rw [hR.2.2.1]
  have hbn : x1.toInt.toNat < n := by omega
  have pr := pl_reason (g := gS) (M := M) (a := m) (c := 2 * x1.toInt.toNat + x2.toInt.toNat) h.1 (by omega) (by omega)
  rw [f_mod _ (by omega), f_half _ (by omega), show (2 * x1.toInt.toNat + x2.toInt.toNat) / 2 = x1.toInt.toNat by omega, show (2 * x1.toInt.toNat + x2.toInt.toNat) % 2 = x2.toInt.toNat by omega, ← e1, ← e2] at pr
  refine Sf.m pr (fun M19 r18 p19 => ?_)
  have k19 : Keep M M19 := p19.2.1
  have h19 := MP.of2 (r := ()) h (OKm.w2 p19.1) k19.k2
  have R19 : Row n m (rd M19 136) := hR.keep2 k19.k2
  refine Sf.i (fun c18 => ?_) (fun _ => ?_)
  · have ht : m.testBit x1.toInt.toNat = false := p19.2.2 c18
    unfold mX7_fold_b46
    refine Sf.m (mp_good__ h19.1) (fun M10 r9 p => Sf.i (fun _ => Sf.ok ⟨p.1.1, p.1.2.trans h19.2⟩) (fun _ => ?_))
    have R10 : Row n m (rd M10 136) := R19.keep2 (Keep.k2 p.2.1)
    rw [e1]
    refine Sf.m (sX7_foldNow p.1.1 R10 hbn ht hs) (fun M14 r13 p14 => Sf.ok ⟨p14.1, ?_⟩)
    exact p14.2.trans (p.1.2.trans h19.2)
  · exact Sf.mono (no _ _ M19 h19.1) (fun q hq => ⟨hq.1, hq.2.trans h19.2⟩)
theorem sX7_foldNext (h : MI M) : Sf (mX7_foldNext 135 M) (MP M) := by
  obtain ⟨n, m, hR⟩ := h.2.1
  have hn := hR.2.1
  have hp := z_pow n hn
  have hm := hR.2.2.2.1
  unfold mX7_foldNext mX7_foldNext_b23
  refine Sf.m (fr2 (R := fun q => Pl (gAll M) n m q.1 ∧ Ald n m q.1 0) h.1 (fun g' h' => ?_)) (fun M3 _ p => ?_)
  · obtain ⟨y, e, h1, h2⟩ := sX7_layCosts' h' hR.nm
    obtain ⟨y', e', h1', h2'⟩ := sX7_layCosts' h.1.all hR.nm
    rw [e] at e'
    cases e'
    exact ⟨y, e, h1.1, h1', h2'⟩
  · obtain ⟨h3, k3, P3, A3⟩ := p
    have h3 : OKm (w2 gS) M3 := h3
    have k3 : Keep2 M M3 := k3
    have P3 : Pl (gAll M) n m M3 := P3
    have I3 := MP.of2 (r := ()) h h3 k3
    have R3 := hR.keep2 k3
    have no : Sf (mX7_foldNext_b24 135 (0 : Int32) M3) (MP M) := by
      unfold mX7_foldNext_b24
      refine Sf.m (mp_good I3.1 (by decide)) (fun M10 r9 p => Sf.i (fun _ => Sf.ok ⟨p.1.1, p.1.2.trans I3.2⟩) (fun c => ?_))
      exact absurd (p.2.2.resolve_left (i_ne c)) (by decide)
    refine Sf.c (pl_isOrder P3.2.1) (fun r5 p5 => Sf.i (fun _ => no) (fun c5 => Sf.c (pl_unmade h3 P3.2.1) (fun r24 p24 => Sf.i (fun _ => no) (fun c24 => ?_))))
    have h0 := p5.2.resolve_left (i_ne c5)
    have c24 := i_nle c24
    rw [show ((0 : Int32)).toInt = 0 from rfl] at c24
    unfold mX7_foldNext_b24
    refine Sf.m (fr (R := fun q => zor q.2 (¬ ((1 : Int32)).toInt = 0)) I3.1.1 (fun g' h' => sX7_good h' (by decide))) (fun M10 r9 p10 => ?_)
    have k10 : Keep M3 M10 := p10.2.1
    have I10 := MP.of2 (r := ()) I3.1 (OKm.w2 p10.1) k10.k2
    refine Sf.i (fun _ => Sf.ok ⟨I10.1, I10.2.trans I3.2⟩) (fun c => Sf.k (by decide) ?_)
    have P10 : Pl (gAll M) n m M10 := P3.keep (P3.1.of_kept k10) k10
    have A10 : Ald n m M10 0 := Ald.keep A3 P3 k10
    have R10 : Row n m (rd M10 136) := R3.keep2 k10.k2
    refine Sf.c (pl_last I10.1.1 R10) (fun r15 p15 => ?_)
    obtain ⟨l, rfl, hl⟩ := p15
    have m10 : mn M10 m = mn M3 m := by unfold mn; rw [k10.2]
    show Sf (cap (mX7_bestStep 135 (rd M10 136 52) (Int32.ofNat l) M10) _) _
    rw [R10.2.2.1]
    refine Sf.c (pl_best P10 A10 hm (Nat.and_self m) hl (by rw [m10]; exact h0) (fun e => ?_)) (fun r17 p17 => ?_)
    · rw [e, (z_full2 n hn).1] at p24; omega
    · obtain ⟨c', hc', rfl, q1, q2⟩ := p17
      have G := P10.2.2 m (by omega) hm (Nat.and_self m)
      have ht := G.2.2.1 c' hc' q1
      rw [f_mod c' (by omega), f_half c' (by omega)]
      refine Sf.m (sX7_foldNow (b := c' / 2) (x2 := Int32.ofNat (c' % 2)) I10.1 R10 (by omega) ht (by rw [t_of (by omega)]; omega)) (fun M21 r20 p21 => Sf.ok ⟨p21.1, ?_⟩)
      exact p21.2.trans (I10.2.trans I3.2)
theorem sX7_costIfTurned (h : MI M) : Sf (mX7_costIfTurned 135 x1 M) (MP M) := by
  have b21 : ∀ r2 y : Int32, zor r2 (0 ≤ x1.toInt ∧ x1.toInt ≤ 7) → Sf (mX7_costIfTurned_b21 135 x1 r2 y M) (MP M) := by
    intro r2 y p2
    unfold mX7_costIfTurned_b21
    refine Sf.m (mp_good_ h) (fun M8 r7 p => Sf.i (fun _ => Sf.ok p.1) (fun c => ?_))
    have h1 := p2.2.resolve_left (p.2.2.resolve_left (i_ne c)).1
    have n11 : ((11 : Int32)).toInt = 11 := rfl
    have n1 : ((1 : Int32)).toInt = 1 := rfl
    have e := i_add (a := (11 : Int32)) (b := x1) (by omega) (by omega)
    have ec : ((11 : Int32) + x1).toNatClampNeg = 11 + x1.toInt.toNat := by rw [i_clamp]; omega
    have bu := bx_up x1.toInt.toNat (by omega)
    have ok : okb ((11 : Int32) + x1) 86 = true := ok_in (by omega) (by omega)
    have h8 : MI M8 := p.1.1
    have q8 : rd M8 135 7 = rd M 135 7 := p.1.2
    have turn : ∀ M : Mem, MI M → (0 : Int) ≤ ((1 : Int32) - rd M 136 (11 + x1.toInt.toNat)).toInt ∧ ((1 : Int32) - rd M 136 (11 + x1.toInt.toNat)).toInt ≤ 1 := by
      intro M h
      have b : (bxS 1 (11 + x1.toInt.toNat)).1 ≤ (rd M 136 (11 + x1.toInt.toNat)).toInt ∧ (rd M 136 (11 + x1.toInt.toNat)).toInt ≤ (bxS 1 (11 + x1.toInt.toNat)).2 := h.1.std 136 (11 + x1.toInt.toNat)
      rw [bu] at b
      have b : (0 : Int) ≤ (rd M 136 (11 + x1.toInt.toNat)).toInt ∧ (rd M 136 (11 + x1.toInt.toNat)).toInt ≤ 1 := b
      have := i_sub (a := (1 : Int32)) (b := rd M 136 (11 + x1.toInt.toNat)) (by omega) (by omega)
      omega
    refine Sf.k ok (Sf.k ok (Sf.b (fun M13 e13 => ?_)))
    rw [ec] at e13
    have e13 : M13 = wr M8 136 (11 + x1.toInt.toNat) ((1 : Int32) - rd M8 136 (11 + x1.toInt.toNat)) := e13
    have h13 : MI M13 := by rw [e13]; exact MI.put h8 ⟨by omega, by omega, by omega, by omega⟩ (by rw [bu]; exact turn M8 h8)
    have q13 : rd M13 135 7 = rd M 135 7 := by rw [e13, rd_wk (by decide)]; exact q8
    obtain ⟨n, m, hR⟩ := h13.2.1
    refine Sf.m (mp2 h13 (fun g' h' => sX7_leastNow h' hR)) (fun M16 r15 p16 => Sf.k ok (Sf.k ok (Sf.b (fun M20 e20 => Sf.ok ?_))))
    have h16 : MI M16 := p16.1
    have q16 : rd M16 135 7 = rd M13 135 7 := p16.2
    rw [ec] at e20
    have e20 : M20 = wr M16 136 (11 + x1.toInt.toNat) ((1 : Int32) - rd M16 136 (11 + x1.toInt.toNat)) := e20
    refine ⟨by show MI M20; rw [e20]; exact MI.put h16 ⟨by omega, by omega, by omega, by omega⟩ (by rw [bu]; exact turn M16 h16), ?_⟩
    show rd M20 135 7 = _
    rw [e20, rd_wk (by decide), q16, q13]
  unfold mX7_costIfTurned
  exact Sf.c (sX7_isBend h.1) (fun r2 p2 => Sf.k (by decide) (Sf.i (fun _ => b21 _ _ ⟨p2.1, p2.2.imp id (fun q => ⟨q.1, q.2.2⟩)⟩) (fun _ => b21 _ _ ⟨p2.1, p2.2.imp id (fun q => ⟨q.1, q.2.2⟩)⟩)))
theorem beam_l (hx : 0 ≤ x1.toInt ∧ x1.toInt ≤ 9999) : ∀ (fuel k : Nat) (x2 x3 : Int32) (M : Mem), x3.toInt = 100 * (k : Int) - 100 → k ≤ 21 → MI M → k < fuel → Sf (mX7_greatestBeam_l19 135 fuel x1 x2 x3 M) (MP M) := by
  intro fuel
  induction fuel with
  | zero => intro k x2 x3 M _ _ _ h; exfalso; omega
  | succ fuel IH =>
    intro k x2 x3 M h3 hk h hf
    show Sf (mX7_greatestBeam_b19 135 (mX7_greatestBeam_l19 135 fuel) x1 x2 x3 M) _
    unfold mX7_greatestBeam_b19
    have b59 : ∀ (y : Int32) (M' : Mem), MI M' → rd M' 135 7 = rd M 135 7 → Sf (mX7_greatestBeam_b59 135 x1 y M') (MP M) := by
      intro y M' h' q'
      unfold mX7_greatestBeam_b59
      refine Sf.k (by decide) (Sf.b (fun M8 e8 => Sf.ok ⟨by show MI M8; rw [e8]; exact MI.put (j := 40) h' (by decide) hx, ?_⟩))
      show rd M8 135 7 = _
      rw [e8, rd_wk (by decide)]; exact q'
    refine Sf.i (fun _ => b59 x2 M h rfl) (fun c => Sf.i (fun _ => Sf.k (by decide) (Sf.b (fun M12 e12 => ?_))) (fun _ => b59 x2 M h rfl))
    have c := i_nlt c
    rw [show ((0 : Int32)).toInt = 0 from rfl] at c
    have e12 : M12 = wr M 136 40 x3 := e12
    have h12 : MI M12 := by rw [e12]; exact MI.put h (by decide) (by show (0 : Int) ≤ _ ∧ _ ≤ (9999 : Int); omega)
    have q12 : rd M12 135 7 = rd M 135 7 := by rw [e12]; exact rd_wk (by decide)
    obtain ⟨n, m, hR⟩ := h12.2.1
    refine Sf.m (fr2 (R := fun q => NM n m q.1) h12.1 (fun g' h' => Sf.mono (sX7_layOrders' h' hR.nm) (fun q hq => ⟨hq.1, hq.2.1⟩))) (fun M15 _ p15 => ?_)
    have I15 := MP.of2 (r := ()) h12 p15.1 p15.2.1
    have nx : ∀ y : Int32, Sf (mX7_greatestBeam_b52 135 (mX7_greatestBeam_l19 135 fuel) x1 x3 y M15) (MP M) := by
      intro y
      unfold mX7_greatestBeam_b52
      refine Sf.b (fun z ez => ?_)
      have tz : z.toInt = x3.toInt - 100 := by rw [ez, i_add (by rw [show ((-100 : Int32)).toInt = -100 from rfl]; omega) (by rw [show ((-100 : Int32)).toInt = -100 from rfl]; omega)]; rfl
      exact Sf.mono (IH (k - 1) y z M15 (by omega) (by omega) I15.1 (by omega)) (fun q hq => ⟨hq.1, hq.2.trans (I15.2.trans q12)⟩)
    exact Sf.c (pl_isOrder p15.2.2) (fun r17 _ => Sf.i (fun _ => nx _) (fun _ => nx _))
theorem sX7_greatestBeam (h : MI M) : Sf (mX7_greatestBeam 135 M) (MP M) := by
  unfold mX7_greatestBeam
  refine Sf.b (fun M1 e1 => Sf.k (by decide) (Sf.b (fun x1 ex => ?_)))
  have h1 : MI M1 := by rw [e1]; exact h.th.1
  have k1 : rd M1 135 7 = rd M 135 7 := by rw [e1]; exact h.th.2
  have b : (0 : Int) ≤ (rd M1 136 40).toInt ∧ (rd M1 136 40).toInt ≤ 9999 := h1.1.std 136 40
  have ex : x1 = rd M1 136 40 := ex
  exact Sf.mono (beam_l (x1 := x1) (by rw [ex]; exact b) 5000 21 (-1) 2000 M1 (by decide) (by omega) h1 (by omega)) (fun q hq => ⟨hq.1, hq.2.trans k1⟩)
end FH
end
/-! part 59i.write -/
section
/-! the reference's write, written -/
def WO (M M' : Mem) : Prop := ∀ k j, k ≠ 151 → ¬ (k = 135 ∧ j = 30) → rd M' k j = rd M k j
section WI
variable {M M' : Mem} {n m : Nat} {x1 : Int32}
theorem WO.trans {M'' : Mem} (h : WO M M') (h' : WO M' M'') : WO M M'' := fun k j h1 h2 => (h' k j h1 h2).trans (h k j h1 h2)
theorem wo_n (h : OKm gS M) : (0 : Int) ≤ (rd M 135 30).toInt ∧ (rd M 135 30).toInt ≤ 120 := h.std 135 30
theorem sX7_put (h : OKm gS M) (hc : (rd M 135 30).toInt < 120) : Sf (mX7_put 135 x1 M) (fun q => OKm gS q.1 ∧ WO M q.1 ∧ (rd q.1 135 30).toInt = (rd M 135 30).toInt + 1) := by
  unfold mX7_put
  have b := wo_n h
  refine Sf.k (ok_in (by omega) (by omega)) (Sf.b (fun M3 e3 => Sf.b (fun M4 e4 => Sf.ok ?_)))
  have e3 : M3 = wr M 151 (rd M 135 30).toNatClampNeg x1 := e3
  have n1 : ((1 : Int32)).toInt = 1 := rfl
  have r30 : rd M3 135 30 = rd M 135 30 := by rw [e3]; exact rd_wk (by decide)
  have t4 : (rd M3 135 30 + 1).toInt = (rd M 135 30).toInt + 1 := by rw [r30, i_add (by omega) (by omega), n1]
  have o3 : OKm gS M3 := by rw [e3]; exact h.put (b := bT) rfl (i_rng _)
  refine ⟨by show OKm gS M4; rw [e4]; exact o3.put (b := (0, 120)) rfl (by rw [t4]; exact ⟨by show (0 : Int) ≤ _; omega, by show _ ≤ (120 : Int); omega⟩), fun k j k1 k2 => ?_, ?_⟩
  · show rd M4 k j = _
    rw [e4]
    by_cases k3 : k = 135
    · subst k3; rw [rd_wj (by omega), e3, rd_wk (by decide)]
    · rw [rd_wk k3, e3, rd_wk k1]
  · show (rd M4 135 30).toInt = _
    rw [e4, rd_we, t4]
def un : Nat → Int32
  | 0 => 0
  | 1 => 1
  | 2 => 10
  | 3 => 100
  | _ => 1000
theorem un_div : ∀ k, k < 4 → un (k + 1) / (10 : Int32) = un k ∧ 0 < (un (k + 1)).toInt := by decide +kernel
theorem un_mul : ∀ k, k < 3 → (10 : Int32) * un (k + 1) = un (k + 2) := by decide +kernel
theorem un_pos : ∀ k, k < 4 → nzb (un (k + 1)) = true := by decide
theorem num_put : ∀ (fuel k : Nat) (M : Mem), k ≤ 4 → OKm gS M → (rd M 135 30).toInt + k ≤ 120 → k < fuel → Sf (mX7_putNumber_l18 135 fuel x1 (un k) M) (fun q => OKm gS q.1 ∧ WO M q.1 ∧ (rd q.1 135 30).toInt = (rd M 135 30).toInt + k) := by
  intro fuel
  induction fuel with
  | zero => intro k M _ _ _ h; exfalso; omega
  | succ fuel IH =>
    intro k M hk h hc hf
    show Sf (mX7_putNumber_b18 135 (mX7_putNumber_l18 135 fuel) x1 (un k) M) _
    unfold mX7_putNumber_b18
    refine Sf.i (fun c => Sf.ok ⟨h, fun _ _ _ _ => rfl, ?_⟩) (fun c => ?_)
    · have : k = 0 := by
        rcases Nat.eq_zero_or_pos k with q | q
        · exact q
        · have u := (un_div (k - 1) (by omega)).2
          rw [show k - 1 + 1 = k by omega] at u
          have c := i_le.mp c
          rw [show ((0 : Int32)).toInt = 0 from rfl] at c
          omega
      subst this
      show (rd M 135 30).toInt = _
      omega
    · have hk0 : k ≠ 0 := fun e => c (by rw [e]; decide)
      obtain ⟨j, rfl⟩ : ∃ j, k = j + 1 := ⟨k - 1, by omega⟩
      refine Sf.k (un_pos j (by omega)) (Sf.m (sX7_put h (by omega)) (fun M7 _ p => Sf.b (fun y ey => ?_)))
      rw [(un_div j (by omega)).1] at ey
      subst ey
      have c7 : (rd M7 135 30).toInt = (rd M 135 30).toInt + 1 := p.2.2
      have w7 : WO M M7 := p.2.1
      refine Sf.mono (IH j M7 (by omega) p.1 (by omega) (by omega)) (fun q hq => ⟨hq.1, w7.trans hq.2.1, ?_⟩)
      have := hq.2.2
      omega
theorem num_unit (hx : 0 ≤ x1.toInt ∧ x1.toInt ≤ 9999) (h : OKm gS M) (hc : (rd M 135 30).toInt + 4 ≤ 120) : ∀ (fuel k : Nat), k < 4 → 4 - k < fuel → Sf (mX7_putNumber_l2 135 fuel x1 (un (k + 1)) M) (fun q => OKm gS q.1 ∧ WO M q.1 ∧ (rd q.1 135 30).toInt ≤ (rd M 135 30).toInt + 4) := by
  intro fuel
  induction fuel with
  | zero => intro k _ h; exfalso; omega
  | succ fuel IH =>
    intro k hk hf
    show Sf (mX7_putNumber_b2 135 (mX7_putNumber_l2 135 fuel) x1 (un (k + 1)) M) _
    unfold mX7_putNumber_b2
    refine Sf.k (un_pos k hk) (Sf.i (fun _ => ?_) (fun c => ?_))
    · refine Sf.mono (num_put 5000 (k + 1) M (by omega) h (by omega) (by omega)) (fun q hq => ⟨hq.1, hq.2.1, ?_⟩)
      have := hq.2.2
      omega
    · by_cases k3 : k = 3
      · exfalso
        subst k3
        apply c
        apply i_le.mpr
        have u : (un (3 + 1)).toInt = 1000 := by decide
        rw [i_div hx.1 (by omega), u, show ((9 : Int32)).toInt = 9 from rfl]
        omega
      · refine Sf.b (fun y ey => ?_)
        rw [un_mul k (by omega)] at ey
        subst ey
        exact IH (k + 1) (by omega) (by omega)
theorem sX7_putNumber (hx : 0 ≤ x1.toInt ∧ x1.toInt ≤ 9999) (h : OKm gS M) (hc : (rd M 135 30).toInt + 4 ≤ 120) : Sf (mX7_putNumber 135 x1 M) (fun q => OKm gS q.1 ∧ WO M q.1 ∧ (rd q.1 135 30).toInt ≤ (rd M 135 30).toInt + 4) := by
  unfold mX7_putNumber
  exact num_unit hx h hc 5000 0 (by decide) (by decide)
theorem sX7_putBend (h : OKm gS M) (hx : 0 ≤ x1.toInt ∧ x1.toInt ≤ 7) (hc : (rd M 135 30).toInt + 2 ≤ 120) : Sf (mX7_putBend 135 x1 M) (fun q => OKm gS q.1 ∧ WO M q.1 ∧ (rd q.1 135 30).toInt ≤ (rd M 135 30).toInt + 2) := by
  have b21 : ∀ y : Int32, Sf (mX7_putBend_b21 135 x1 y M) (fun q => OKm gS q.1 ∧ WO M q.1 ∧ (rd q.1 135 30).toInt ≤ (rd M 135 30).toInt + 2) := by
    intro y
    unfold mX7_putBend_b21
    refine Sf.m (sX7_put h (by omega)) (fun M5 _ p => Sf.k (by decide) ?_)
    have h5 : OKm gS M5 := p.1
    have c5 : (rd M5 135 30).toInt = (rd M 135 30).toInt + 1 := p.2.2
    have w5 : WO M M5 := p.2.1
    have bm : (0 : Int) ≤ (rd M5 (135 + 1) ((52 : Int32)).toNatClampNeg).toInt ∧ (rd M5 (135 + 1) ((52 : Int32)).toNatClampNeg).toInt ≤ 255 := h5.std 136 52
    refine Sf.c (sX7_has h5 bm hx) (fun r8 _ => Sf.i (fun _ => Sf.ok ⟨h5, w5, by show (rd M5 135 30).toInt ≤ _; omega⟩) (fun _ => Sf.m (sX7_put h5 (by omega)) (fun M13 _ p13 => Sf.ok ⟨p13.1, w5.trans p13.2.1, ?_⟩)))
    have c13 : (rd M13 135 30).toInt = (rd M5 135 30).toInt + 1 := p13.2.2
    show (rd M13 135 30).toInt ≤ _
    omega
  unfold mX7_putBend
  have n11 : ((11 : Int32)).toInt = 11 := rfl
  have e := i_add (a := (11 : Int32)) (b := x1) (by omega) (by omega)
  exact Sf.k (ok_in (by omega) (by omega)) (Sf.i (fun _ => b21 _) (fun _ => b21 _))
theorem sum_costs (h : OKm gS M) : Sf (mX7_sumOfCosts 135 M) (pI 0 2376) := by
  have key : ∀ (fuel : Nat) (x1 x2 : Int32), 0 ≤ x2.toInt ∧ x2.toInt ≤ 8 → 0 ≤ x1.toInt ∧ x1.toInt ≤ 297 * x2.toInt → 8 - x2.toInt < fuel → Sf (mX7_sumOfCosts_l4 135 M fuel x1 x2) (pI 0 2376) := by
    intro fuel
    induction fuel with
    | zero => intro x1 x2 _ _ h; exfalso; omega
    | succ fuel IH =>
      intro x1 x2 h2 h1 hf
      show Sf (mX7_sumOfCosts_b4 135 M (mX7_sumOfCosts_l4 135 M fuel) x1 x2) _
      unfold mX7_sumOfCosts_b4
      have b : (0 : Int) ≤ (rd M (135 + 1) ((53 : Int32)).toNatClampNeg).toInt ∧ (rd M (135 + 1) ((53 : Int32)).toNatClampNeg).toInt ≤ 8 := h.std 136 53
      have n1 : ((1 : Int32)).toInt = 1 := rfl
      refine Sf.k (by decide) (Sf.i (fun _ => Sf.ok ⟨h1.1, by omega⟩) (fun c => ?_))
      have c := i_nle c
      refine Sf.c (sX7_stepOf3 h (by omega)) (fun r4 p4 => Sf.b (fun y1 e1 => Sf.b (fun y2 e2 => ?_)))
      obtain ⟨pa, pb⟩ := p4
      have t1 : y1.toInt = x1.toInt + r4.toInt := by rw [e1]; exact i_add (by omega) (by omega)
      have t2 : y2.toInt = x2.toInt + 1 := by rw [e2]; exact i_add (by omega) (by omega)
      exact IH y1 y2 (by omega) (by omega) (by omega)
  unfold mX7_sumOfCosts
  exact key 5000 0 0 (by decide) (by decide) (by decide)
theorem put_cost : ∀ (fuel i : Nat) (M : Mem), i ≤ 6 → OKm gS M → (rd M 135 30).toInt + (10 - i) ≤ 120 → 6 - i < fuel → Sf (mX7_putCost_l6 135 fuel (Int32.ofNat i) M) (fun q => OKm gS q.1 ∧ WO M q.1) := by
  intro fuel
  induction fuel with
  | zero => intro i M _ _ _ h; exfalso; omega
  | succ fuel IH =>
    intro i M hi h hc hf
    show Sf (mX7_putCost_b6 135 (mX7_putCost_l6 135 fuel) (Int32.ofNat i) M) _
    unfold mX7_putCost_b6
    rw [sJ0_length (by decide), show (some (Int32.ofNat (stLen 11)) : Option Int32) = some 6 from by decide +kernel]
    have ti : (Int32.ofNat i).toInt = (i : Int) := t_of (by omega)
    refine Sf.c (Q := fun r => r = 6) ⟨6, rfl, rfl⟩ (fun r er => ?_)
    subst er
    refine Sf.i (fun c => ?_) (fun c => ?_)
    · refine Sf.c (sum_costs h) (fun r6 p6 => Sf.m (sX7_putNumber ⟨p6.1, by have := p6.2; omega⟩ h (by omega)) (fun M10 _ p => Sf.ok ⟨p.1, p.2.1⟩))
    · have c := i_nle c
      rw [ti, show ((6 : Int32)).toInt = 6 from rfl] at c
      refine Sf.c (sJ0_charAt (k := 11) (by decide) (by omega) (by rw [ti, show stLen 11 = 6 from by decide +kernel]; omega)) (fun r12 _ => Sf.m (sX7_put h (by omega)) (fun M16 _ p => Sf.b (fun y ey => ?_)))
      have ey : y = Int32.ofNat (i + 1) := ey.trans (Int32.ofNat_add i 1).symm
      have c16 : (rd M16 135 30).toInt = (rd M 135 30).toInt + 1 := p.2.2
      have w16 : WO M M16 := p.2.1
      rw [ey]
      exact Sf.mono (IH (i + 1) M16 (by omega) p.1 (by omega) (by omega)) (fun q hq => ⟨hq.1, w16.trans hq.2⟩)
theorem write_l : ∀ (fuel i : Nat) (M : Mem), i ≤ 9 → OKm gS M → (rd M 135 30).toInt ≤ 6 * i → 9 - i < fuel → Sf (mX7_write_l12 135 fuel (Int32.ofNat i) M) (fun q => OKm gS q.1 ∧ WO M q.1) := by
  intro fuel
  induction fuel with
  | zero => intro i M _ _ _ h; exfalso; omega
  | succ fuel IH =>
    intro i M hi h hc hf
    show Sf (mX7_write_b12 135 (mX7_write_l12 135 fuel) (Int32.ofNat i) M) _
    unfold mX7_write_b12
    have ti : (Int32.ofNat i).toInt = (i : Int) := t_of (by omega)
    have b1 : (0 : Int) ≤ (rd M (135 + 1) ((1 : Int32)).toNatClampNeg).toInt ∧ (rd M (135 + 1) ((1 : Int32)).toNatClampNeg).toInt ≤ 9 := h.std 136 1
    refine Sf.k (by decide) (Sf.i (fun _ => Sf.k (by decide) (Sf.i (fun _ => Sf.ok ⟨h, fun _ _ _ _ => rfl⟩) (fun _ => ?_))) (fun c => ?_))
    · unfold mX7_putCost
      exact Sf.m (put_cost 5000 0 M (by omega) h (by omega) (by omega)) (fun M11 _ p => Sf.ok p)
    · have c := i_nle c
      have n2 : ((2 : Int32)).toInt = 2 := rfl
      have e := i_add (a := (2 : Int32)) (b := Int32.ofNat i) (by omega) (by omega)
      have bl : (0 : Int) ≤ (rd M (135 + 1) ((2 : Int32) + Int32.ofNat i).toNatClampNeg).toInt ∧ (rd M (135 + 1) ((2 : Int32) + Int32.ofNat i).toNatClampNeg).toInt ≤ 9999 := h.ri 2 10 (by decide +kernel) (by omega) (by omega)
      refine Sf.k (ok_in (by omega) (by omega)) (Sf.m (sX7_putNumber bl h (by omega)) (fun M15 _ p => Sf.k (by decide) ?_))
      have h15 : OKm gS M15 := p.1
      have w15 : WO M M15 := p.2.1
      have c15 : (rd M15 135 30).toInt ≤ (rd M 135 30).toInt + 4 := p.2.2
      have nx : ∀ M', OKm gS M' → WO M M' → (rd M' 135 30).toInt ≤ 6 * i + 6 → Sf (mX7_write_b49 135 (mX7_write_l12 135 fuel) (Int32.ofNat i) M') (fun q => OKm gS q.1 ∧ WO M q.1) := by
        intro M' h' w' c'
        unfold mX7_write_b49
        refine Sf.b (fun y ey => ?_)
        have ey : y = Int32.ofNat (i + 1) := ey.trans (Int32.ofNat_add i 1).symm
        rw [ey]
        exact Sf.mono (IH (i + 1) M' (by omega) h' (by omega) (by omega)) (fun q hq => ⟨hq.1, w'.trans hq.2⟩)
      have bn : (0 : Int) ≤ (rd M15 (135 + 1) ((0 : Int32)).toNatClampNeg).toInt ∧ (rd M15 (135 + 1) ((0 : Int32)).toNatClampNeg).toInt ≤ 8 := h15.std 136 0
      refine Sf.i (fun _ => nx M15 h15 w15 (by omega)) (fun cn => ?_)
      have cn := i_nle cn
      refine Sf.m (sX7_putBend h15 (by omega) (by omega)) (fun M21 _ p21 => nx M21 p21.1 (w15.trans p21.2.1) ?_)
      have c21 : (rd M21 135 30).toInt ≤ (rd M15 135 30).toInt + 2 := p21.2.2
      omega
theorem sX7_write (h : MI M) : Sf (mX7_write 135 M) (MP M) := by
  unfold mX7_write
  refine Sf.b (fun M1 e1 => Sf.b (fun M3 e3 => ?_))
  have h1 : MI M1 := by rw [e1]; exact h.th.1
  have k1 : rd M1 135 7 = rd M 135 7 := by rw [e1]; exact h.th.2
  have o3 : OKm gS M3 := by rw [e3]; exact h1.1.put (b := (0, 120)) rfl (by decide)
  have w3 : WO M1 M3 := fun k j k2 k3 => by
    rw [e3]
    by_cases k4 : k = 135
    · subst k4; exact rd_wj (by omega)
    · exact rd_wk k4
  have c3 : (rd M3 135 30).toInt = 0 := by rw [e3, rd_we]; rfl
  refine Sf.mono (write_l 5000 0 M3 (by omega) o3 (by omega) (by omega)) (fun q hq => ?_)
  have w : WO M1 q.1 := w3.trans hq.2
  obtain ⟨_, ⟨n, m, hR⟩, hH⟩ := h1
  refine ⟨⟨hq.1, ⟨n, m, hR.of (fun j => w 136 j (by decide) (by omega))⟩, fun e' he' => ?_⟩, (w 135 7 (by decide) (by omega)).trans k1⟩
  rw [w 135 4 (by decide) (by omega)] at he'
  obtain ⟨n, m, hr⟩ := hH e' he'
  exact ⟨n, m, hr.of (fun j => w 139 _ (by decide) (by omega))⟩
theorem sX7_written (h : MI M) : Sf (mX7_written 135 x1 M) (MP M) := by
  unfold mX7_written
  have b := wo_n h.1
  have n1 : ((1 : Int32)).toInt = 1 := rfl
  have e := i_sub (a := rd M 135 30) (b := 1) (by omega) (by omega)
  refine Sf.c (sX7_between (Int32.toInt_toInt64 _) (b := 0) (by decide) (Int32.toInt_toInt64 _)) (fun r2 p2 => Sf.m (mp_good h p2.1) (fun M6 r5 p => Sf.i (fun _ => Sf.ok p.1) (fun c => ?_)))
  have hx := p2.2.resolve_left (p.2.2.resolve_left (i_ne c))
  exact Sf.k (ok_in (by omega) (by omega)) (Sf.k (isC_mod _) (Sf.ok ⟨p.1.1, p.1.2⟩))
end WI
end
/-! part 59j.parse -/
section
/-! the reference reads a text -/
def KA (M M' : Mem) : Prop := ∀ k j, ¬ (k = 135 ∧ 11 ≤ j ∧ j ≤ 16) → rd M' k j = rd M k j
def nx (M : Mem) : Int := (rd M 135 12).toInt
section PJ
variable {M M' M'' : Mem} {n m : Nat} {x1 x2 x3 v : Int32}
theorem KA.rf : KA M M := fun _ _ _ => rfl
theorem KA.trans (h : KA M M') (h' : KA M' M'') : KA M M'' := fun k j q => (h' k j q).trans (h k j q)
theorem ka_wr {j : Nat} (hj : 11 ≤ j ∧ j ≤ 16) : KA M (wr M 135 j v) := fun k i q => by
  by_cases k1 : k = 135
  · subst k1; exact rd_wj (by omega)
  · exact rd_wk k1
theorem nx_b (h : OKm gS M) : 0 ≤ nx M ∧ nx M ≤ 600 := h.std 135 12
theorem ps_start (h : OKm gS M) (hv : 0 ≤ v.toInt ∧ v.toInt ≤ 600) : OKm gS (wr M 135 11 v) := h.put (b := (0, 600)) rfl hv
theorem ps_next (h : OKm gS M) (hv : 0 ≤ v.toInt ∧ v.toInt ≤ 600) : OKm gS (wr M 135 12 v) := h.put (b := (0, 600)) rfl hv
theorem ps_tok (h : OKm gS M) : OKm gS (wr M 135 13 v) := h.put (b := bT) rfl (i_rng _)
theorem ps_val (h : OKm gS M) : OKm gS (wr M 135 14 v) := h.put (b := bT) rfl (i_rng _)
theorem sX7_byteAt (h : OKm gS M) (hx : 0 ≤ x1.toInt) : Sf (mX7_byteAt 135 x1 M) (fun r => r = -1 ∨ x1.toInt < 600) := by
  unfold mX7_byteAt
  have b : (0 : Int) ≤ (rd M 135 10).toInt ∧ (rd M 135 10).toInt ≤ 600 := h.std 135 10
  refine Sf.i (fun _ => Sf.ok (Or.inl rfl)) (fun c => ?_)
  have c := i_nle c
  exact Sf.k (ok_in hx (by omega)) (Sf.ok (Or.inr (by omega)))
theorem sX7_isLetter : Sf (mX7_isLetter x1 M) (fun r => r = 0 ∨ ¬ x1 = -1) := by
  unfold mX7_isLetter
  refine Sf.i (fun _ => Sf.ok (Or.inl rfl)) (fun c => Sf.i (fun _ => Sf.ok (Or.inl rfl)) (fun _ => Sf.ok (Or.inr (fun e => c (by rw [e]; decide)))))
theorem sX7_isDigit : Sf (mX7_isDigit x1 M) (fun r => r = 0 ∨ ¬ x1 = -1) := by
  unfold mX7_isDigit
  refine Sf.i (fun _ => Sf.ok (Or.inl rfl)) (fun c => Sf.i (fun _ => Sf.ok (Or.inl rfl)) (fun _ => Sf.ok (Or.inr (fun e => c (by rw [e]; decide)))))
theorem nx_inc (h : OKm gS M) (hc : nx M < 600) : (rd M 135 12 + 1).toInt = nx M + 1 := by
  have b := nx_b h
  have n1 : ((1 : Int32)).toInt = 1 := rfl
  show (rd M 135 12 + 1).toInt = (rd M 135 12).toInt + 1
  unfold nx at b
  rw [i_add (by omega) (by omega), n1]
/-- what reading a token gives -/
def AP (M : Mem) (q : Mem × Int32) : Prop := OKm gS q.1 ∧ KA M q.1 ∧ q.2 = 1 ∧ nx M ≤ nx q.1
theorem ad_fin1 {y : Int32} (h : OKm gS M) : Sf (mX7_advance_b230 135 y M) (fun q => AP M q ∧ rd q.1 135 13 = y) := by
  unfold mX7_advance_b230
  refine Sf.b (fun M42 e => Sf.ok ?_)
  subst e
  exact ⟨⟨ps_tok h, ka_wr (by decide), rfl, by unfold nx; rw [rd_wj (by decide)]; omega⟩, rd_we⟩
theorem ad_fin2 {y : Int32} (h : OKm gS M) : Sf (mX7_advance_b123 135 y M) (fun q => AP M q ∧ rd q.1 135 13 = y) := by
  unfold mX7_advance_b123
  refine Sf.b (fun M42 e => Sf.ok ?_)
  subst e
  exact ⟨⟨ps_tok h, ka_wr (by decide), rfl, by unfold nx; rw [rd_wj (by decide)]; omega⟩, rd_we⟩
theorem ad_letters : ∀ (fuel : Nat) (M : Mem), OKm gS M → 600 - nx M < fuel → Sf (mX7_advance_l76 135 fuel M) (fun q => AP M q ∧ rd q.1 135 13 ≠ 3) := by
  intro fuel
  induction fuel with
  | zero => intro M h hf; have := nx_b h; exfalso; omega
  | succ fuel IH =>
    intro M h hf
    show Sf (mX7_advance_b76 135 (mX7_advance_l76 135 fuel) M) _
    unfold mX7_advance_b76
    have b := nx_b h
    refine Sf.c (sX7_byteAt h (x1 := rd M 135 12) b.1) (fun r53 p53 => Sf.c sX7_isLetter (fun r56 p56 => Sf.i (fun _ => Sf.i (fun _ => Sf.mono (ad_fin2 h) (fun q hq => ⟨hq.1, by rw [hq.2]; decide⟩)) (fun _ => Sf.mono (ad_fin2 h) (fun q hq => ⟨hq.1, by rw [hq.2]; decide⟩))) (fun c => ?_)))
    have hl : nx M < 600 := p53.resolve_left (p56.resolve_left c)
    refine Sf.b (fun M62 e => ?_)
    have t := nx_inc h hl
    have h62 : OKm gS M62 := by rw [e]; exact ps_next h (by rw [t]; omega)
    have k62 : KA M M62 := by rw [e]; exact ka_wr (by decide)
    have n62 : nx M62 = nx M + 1 := by unfold nx; rw [e, rd_we]; exact t
    exact Sf.mono (IH M62 h62 (by omega)) (fun q hq => ⟨⟨hq.1.1, k62.trans hq.1.2.1, hq.1.2.2.1, by have := hq.1.2.2.2; omega⟩, hq.2⟩)
theorem ad_dig_step {fuel : Nat} (h : OKm gS M) (hl : nx M < 600) (IH : ∀ M, OKm gS M → 600 - nx M < fuel → Sf (mX7_advance_l141 135 fuel M) (AP M)) (hf : 600 - nx M < fuel + 1) {r : Int32} (hr : mX7_byteAt 135 (rd M 135 12) M = some r) : Sf (ite2 ((4 : Int32) ≤ ((rd M 135 12) - (rd M 135 11))) (mX7_advance_b195 135 (mX7_advance_l141 135 fuel) (rd M 135 14) M) (cap (mX7_byteAt 135 (rd M 135 12) M) (fun r50 => mX7_advance_b195 135 (mX7_advance_l141 135 fuel) ((((10 : Int32) * (rd M 135 14)) + r50) - (48 : Int32)) M))) (fun q => AP M q ∧ nx M < nx q.1) := by
  have b := nx_b h
  have t := nx_inc h hl
  have b195 : ∀ y : Int32, Sf (mX7_advance_b195 135 (mX7_advance_l141 135 fuel) y M) (fun q => AP M q ∧ nx M < nx q.1) := by
    intro y
    unfold mX7_advance_b195
    refine Sf.b (fun M45 e45 => Sf.b (fun M47 e47 => ?_))
    have r12 : rd M45 135 12 = rd M 135 12 := by rw [e45]; exact rd_wj (by decide)
    rw [r12] at e47
    have h45 : OKm gS M45 := by rw [e45]; exact ps_val h
    have h47 : OKm gS M47 := by rw [e47]; exact ps_next h45 (by rw [t]; omega)
    have k47 : KA M M47 := by rw [e47, e45]; exact (ka_wr (by decide)).trans (ka_wr (by decide))
    have n47 : nx M47 = nx M + 1 := by unfold nx; rw [e47, rd_we]; exact t
    exact Sf.mono (IH M47 h47 (by omega)) (fun q hq => ⟨⟨hq.1, k47.trans hq.2.1, hq.2.2.1, by have := hq.2.2.2; omega⟩, by have := hq.2.2.2; omega⟩)
  refine Sf.i (fun _ => b195 _) (fun _ => ?_)
  rw [hr]
  exact b195 _
theorem ad_digits : ∀ (fuel : Nat) (M : Mem), OKm gS M → 600 - nx M < fuel → Sf (mX7_advance_l141 135 fuel M) (AP M) := by
  intro fuel
  induction fuel with
  | zero => intro M h hf; have := nx_b h; exfalso; omega
  | succ fuel IH =>
    intro M h hf
    show Sf (mX7_advance_b141 135 (mX7_advance_l141 135 fuel) M) _
    unfold mX7_advance_b141
    have b := nx_b h
    obtain ⟨r35, e35, p35⟩ := sX7_byteAt h (x1 := rd M 135 12) b.1
    rw [e35]
    refine Sf.c (Q := fun r => r = r35) ⟨_, rfl, rfl⟩ (fun r er => ?_)
    subst er
    refine Sf.c sX7_isDigit (fun r38 p38 => Sf.i (fun _ => Sf.i (fun _ => Sf.mono (ad_fin1 h) (fun q hq => hq.1)) (fun _ => Sf.mono (ad_fin1 h) (fun q hq => hq.1))) (fun c => ?_))
    have hl : nx M < 600 := p35.resolve_left (p38.resolve_left c)
    have := ad_dig_step h hl IH hf e35
    rw [e35] at this
    exact Sf.mono this (fun q hq => hq.1)
/-- the first digit is taken -/
theorem ad_digits1 {r d : Int32} (h : OKm gS M) (hr : mX7_byteAt 135 (rd M 135 12) M = some r) (hd : mX7_isDigit r M = some d) (hd0 : ¬ d = 0) (hl : nx M < 600) : Sf (mX7_advance_l141 135 5000 M) (fun q => AP M q ∧ nx M < nx q.1) := by
  show Sf (mX7_advance_b141 135 (mX7_advance_l141 135 4999) M) _
  unfold mX7_advance_b141
  have b := nx_b h
  have := ad_dig_step (fuel := 4999) h hl (ad_digits 4999) (by omega) hr
  rw [hr] at this ⊢
  refine Sf.c (Q := fun x => x = r) ⟨_, rfl, rfl⟩ (fun x er => ?_)
  subst er
  rw [hd]
  refine Sf.c (Q := fun x => x = d) ⟨_, rfl, rfl⟩ (fun x er => ?_)
  subst er
  exact Sf.i (fun q => absurd q hd0) (fun _ => this)
/-- a number's token takes a byte at least -/
def AQ (M : Mem) (q : Mem × Int32) : Prop := AP M q ∧ (rd q.1 135 13 = 3 → nx M < nx q.1)
theorem ad_l : ∀ (fuel : Nat) (M : Mem), OKm gS M → 600 - nx M < fuel → Sf (mX7_advance_l0 135 fuel M) (AQ M) := by
  intro fuel
  induction fuel with
  | zero => intro M h hf; have := nx_b h; exfalso; omega
  | succ fuel IH =>
    intro M h hf
    show Sf (mX7_advance_b0 135 (mX7_advance_l0 135 fuel) M) _
    unfold mX7_advance_b0
    have b := nx_b h
    have b26 : nx M < 600 → Sf (mX7_advance_b26 135 (mX7_advance_l0 135 fuel) M) (AQ M) := by
      intro hl
      unfold mX7_advance_b26
      refine Sf.b (fun M5 e => ?_)
      have t := nx_inc h hl
      have h5 : OKm gS M5 := by rw [e]; exact ps_next h (by rw [t]; omega)
      have k5 : KA M M5 := by rw [e]; exact ka_wr (by decide)
      have n5 : nx M5 = nx M + 1 := by unfold nx; rw [e, rd_we]; exact t
      exact Sf.mono (IH M5 h5 (by omega)) (fun q hq => ⟨⟨hq.1.1, k5.trans hq.1.2.1, hq.1.2.2.1, by have := hq.1.2.2.2; omega⟩, fun _ => by have := hq.1.2.2.2; omega⟩)
    refine Sf.c (sX7_byteAt h (x1 := rd M 135 12) b.1) (fun r2 p2 => Sf.i (fun c => b26 (p2.resolve_left (fun e => absurd (c.symm.trans e) (by decide)))) (fun _ => Sf.c (sX7_byteAt h (x1 := rd M 135 12) b.1) (fun r8 p8 => Sf.i (fun c => b26 (p8.resolve_left (fun e => absurd (c.symm.trans e) (by decide)))) (fun _ => Sf.b (fun M11 e11 => ?_)))))
    have h11 : OKm gS M11 := by rw [e11]; exact ps_start h b
    have k11 : KA M M11 := by rw [e11]; exact ka_wr (by decide)
    have n11 : nx M11 = nx M := by unfold nx; rw [e11, rd_wj (by decide)]
    have b11 := nx_b h11
    obtain ⟨r14, e14, p14⟩ := sX7_byteAt h11 (x1 := rd M11 135 12) b11.1
    rw [e14]
    refine Sf.c (Q := fun x => x = r14) ⟨_, rfl, rfl⟩ (fun x er => ?_)
    subst er
    refine Sf.i (fun _ => Sf.b (fun M64 e64 => Sf.ok ?_)) (fun c14 => ?_)
    · subst e64
      exact ⟨⟨ps_tok h11, k11.trans (ka_wr (by decide)), rfl, by unfold nx; rw [rd_wj (by decide)]; unfold nx at n11; omega⟩, fun q => absurd (rd_we.symm.trans q) (by decide)⟩
    · have hl : nx M11 < 600 := p14.resolve_left c14
      refine Sf.c sX7_isLetter (fun r18 _ => Sf.i (fun _ => ?_) (fun _ => ?_))
      · obtain ⟨d, ed, pd⟩ := sX7_isDigit (x1 := x) (M := M11)
        rw [ed]
        refine Sf.c (Q := fun y => y = d) ⟨_, rfl, rfl⟩ (fun y er => ?_)
        subst er
        refine Sf.i (fun _ => Sf.b (fun M25 e25 => ?_)) (fun cd => Sf.b (fun M32 e32 => ?_))
        · have t := nx_inc h11 hl
          have h25 : OKm gS M25 := by rw [e25]; exact ps_next h11 (by rw [t]; omega)
          have k25 : KA M M25 := by rw [e25]; exact k11.trans (ka_wr (by decide))
          have n25 : nx M25 = nx M + 1 := by unfold nx; rw [e25, rd_we, t, n11]; rfl
          have fin : ∀ y : Int32, Sf (bnd (wr M25 135 13 y) (fun M30 => some (M30, (1 : Int32)))) (AQ M) := by
            intro y
            refine Sf.b (fun M30 e30 => Sf.ok ?_)
            subst e30
            have n30 : nx (wr M25 135 13 y) = nx M25 := by unfold nx; rw [rd_wj (by decide)]
            exact ⟨⟨ps_tok h25, k25.trans (ka_wr (by decide)), rfl, by show nx M ≤ nx (wr M25 135 13 y); omega⟩, fun _ => by show nx M < nx (wr M25 135 13 y); omega⟩
          exact Sf.i (fun _ => fin 4) (fun _ => fin 1)
        · have h32 : OKm gS M32 := by rw [e32]; exact ps_val h11
          have k32 : KA M M32 := by rw [e32]; exact k11.trans (ka_wr (by decide))
          have n32 : nx M32 = nx M := by unfold nx; rw [e32, rd_wj (by decide)]; exact n11
          have r12 : rd M32 135 12 = rd M11 135 12 := by rw [e32, rd_wj (by decide)]
          have e14' : mX7_byteAt 135 (rd M32 135 12) M32 = some x := by
            rw [r12, ← e14]
            unfold mX7_byteAt
            rw [e32, rd_wj (by decide), rd_wk (by decide)]
          have ed' : mX7_isDigit x M32 = some y := ed
          refine Sf.mono (ad_digits1 h32 e14' ed' cd (by omega)) (fun q hq => ⟨⟨hq.1.1, k32.trans hq.1.2.1, hq.1.2.2.1, by have := hq.1.2.2.2; omega⟩, fun _ => by have := hq.2; omega⟩)
      · refine Sf.mono (ad_letters 5000 M11 h11 (by omega)) (fun q hq => ⟨⟨hq.1.1, k11.trans hq.1.2.1, hq.1.2.2.1, by have := hq.1.2.2.2; omega⟩, fun e => absurd e hq.2⟩)
theorem sX7_advance (h : OKm gS M) : Sf (mX7_advance 135 M) (AQ M) := by
  unfold mX7_advance
  have b := nx_b h
  exact ad_l 5000 M h (by omega)
theorem sX7_fail (h : OKm gS M) : Sf (mX7_fail 135 x1 M) (fun q => OKm gS q.1 ∧ KA M q.1 ∧ q.2 = 0 ∧ nx q.1 = nx M) := by
  have b14 : ∀ y : Int32, Sf (mX7_fail_b14 135 y M) (fun q => OKm gS q.1 ∧ KA M q.1 ∧ q.2 = 0 ∧ nx q.1 = nx M) := by
    intro y
    unfold mX7_fail_b14
    refine Sf.b (fun M2 e2 => Sf.b (fun M4 e4 => Sf.ok ?_))
    have h2 : OKm gS M2 := by rw [e2]; exact h.put (b := bT) rfl (i_rng _)
    refine ⟨by show OKm gS M4; rw [e4]; exact h2.put (b := bT) rfl (i_rng _), ?_, rfl, ?_⟩
    · show KA M M4
      rw [e4, e2]; exact (ka_wr (by decide)).trans (ka_wr (by decide))
    · show nx M4 = nx M
      unfold nx
      rw [e4, rd_wj (by decide), e2, rd_wj (by decide)]
  unfold mX7_fail
  exact Sf.i (fun _ => b14 _) (fun _ => b14 _)
theorem sX7_isWord {k1 : Nat} (hk : k1 < 12) (h : OKm gS M) : Sf (mX7_isWord 135 k1 M) (pI 0 1) := by
  unfold mX7_isWord
  rw [sJ0_length hk]
  have b12 := nx_b h
  have b11 : (0 : Int) ≤ (rd M 135 11).toInt ∧ (rd M 135 11).toInt ≤ 600 := h.std 135 11
  have h8 := (st_len k1 hk).2.2
  have tl : (Int32.ofNat (stLen k1)).toInt = (stLen k1 : Int) := toInt_of rfl (by omega)
  unfold nx at b12
  refine Sf.i (fun _ => Sf.c (Q := fun r => r = Int32.ofNat (stLen k1)) ⟨_, rfl, rfl⟩ (fun r er => Sf.i (fun c => ?_) (fun _ => Sf.ok (by decide)))) (fun _ => Sf.ok (by decide))
  subst er
  have c := congrArg Int32.toInt c
  rw [i_sub (by omega) (by omega), tl] at c
  have key : ∀ (fuel i : Nat), i ≤ stLen k1 → stLen k1 - i < fuel → Sf (mX7_isWord_l28 135 k1 M fuel (Int32.ofNat i)) (pI 0 1) := by
    intro fuel
    induction fuel with
    | zero => intro i _ h; exfalso; omega
    | succ fuel IH =>
      intro i hi hf
      show Sf (mX7_isWord_b28 135 k1 M (mX7_isWord_l28 135 k1 M fuel) (Int32.ofNat i)) _
      unfold mX7_isWord_b28
      rw [sJ0_length hk]
      have ti : (Int32.ofNat i).toInt = (i : Int) := t_of (by omega)
      refine Sf.c (Q := fun r => r = Int32.ofNat (stLen k1)) ⟨_, rfl, rfl⟩ (fun r er => ?_)
      subst er
      refine Sf.i (fun _ => Sf.ok (by decide)) (fun ci => ?_)
      have ci := i_nle ci
      rw [ti, tl] at ci
      have e := i_add (a := rd M 135 11) (b := Int32.ofNat i) (by omega) (by omega)
      refine Sf.k (ok_in (by omega) (by omega)) (Sf.c (sJ0_charAt hk (by omega) (by omega)) (fun r12 _ => Sf.i (fun _ => Sf.b (fun y ey => ?_)) (fun _ => Sf.ok (by decide))))
      have ey : y = Int32.ofNat (i + 1) := ey.trans (Int32.ofNat_add i 1).symm
      rw [ey]
      exact IH (i + 1) (by omega) (by omega)
  exact key 5000 0 (by omega) (by omega)
/-! statements -/
/-- the parsed row -/
def PI (M : Mem) : Prop := OKm gS M ∧ (rd M 137 1).toInt ≤ (rd M 137 0).toInt + 1 ∧ 1 ≤ (rd M 137 36).toInt ∧ rd M 137 52 = 0 ∧ rd M 137 53 = 0
def KP (M M' : Mem) : Prop := ∀ k j, k ≠ 137 → ¬ (k = 135 ∧ 11 ≤ j ∧ j ≤ 16) → rd M' k j = rd M k j
theorem KA.kp (h : KA M M') : KP M M' := fun k j _ q => h k j q
theorem KP.trans (h : KP M M') (h' : KP M' M'') : KP M M'' := fun k j q1 q2 => (h' k j q1 q2).trans (h k j q1 q2)
theorem KA.p (h : KA M M') (j : Nat) : rd M' 137 j = rd M 137 j := h 137 j (by omega)
theorem PI.ka (h : PI M) (h' : OKm gS M') (k : KA M M') : PI M' := by
  refine ⟨h', ?_, ?_, ?_, ?_⟩
  · rw [k.p, k.p]; exact h.2.1
  · rw [k.p]; exact h.2.2.1
  · rw [k.p]; exact h.2.2.2.1
  · rw [k.p]; exact h.2.2.2.2
theorem put137 {j : Nat} (h : OKm gS M) (hv : (bxS 0 j).1 ≤ v.toInt ∧ v.toInt ≤ (bxS 0 j).2) : OKm gS (wr M 137 j v) := h.put rfl hv
theorem kp_wr {j : Nat} : KP M (wr M 137 j v) := fun k i q _ => rd_wk q
/-- what a statement gives -/
def SP (M : Mem) (q : Mem × Int32) : Prop := PI q.1 ∧ KP M q.1 ∧ (0 ≤ q.2.toInt ∧ q.2.toInt ≤ 1) ∧ nx M ≤ nx q.1 ∧ (¬ q.2 = 0 → nx M < nx q.1)
theorem sp_fail {y : Int32} (h : PI M) : Sf (cal (mX7_fail 135 y M) (fun M15 r14 => chk (isB r14) (some (M15, r14)))) (SP M) := by
  refine Sf.m (sX7_fail h.1) (fun M15 r p => ?_)
  have e : r = 0 := p.2.2.1
  subst e
  exact Sf.k (by decide) (Sf.ok ⟨h.ka p.1 p.2.1, KA.kp p.2.1, z01_0, by have := p.2.2.2; omega, fun q => absurd rfl q⟩)
/-- a number in its place -/
theorem sX7_number {i : Nat} (h : PI M) (hi : x1.toInt = (i : Int) ∧ i < 86 ∧ i ≠ 0 ∧ i ≠ 1 ∧ i ≠ 52 ∧ i ≠ 53) (hlo : (bxS 0 i).1 ≤ x2.toInt ∧ (i = 36 → 1 ≤ x2.toInt)) (hhi : x3.toInt ≤ (bxS 0 i).2) : Sf (mX7_number 135 x1 x2 x3 M) (fun q => PI q.1 ∧ KP M q.1 ∧ (0 ≤ q.2.toInt ∧ q.2.toInt ≤ 1) ∧ nx M ≤ nx q.1 ∧ (¬ q.2 = 0 → rd M 135 13 = 3) ∧ ∀ j, j ≠ i → rd q.1 137 j = rd M 137 j) := by
  unfold mX7_number
  have no : ∀ y : Int32, Sf (cal (mX7_fail 135 y M) (fun M15 r14 => chk (isB r14) (some (M15, r14)))) (fun q => PI q.1 ∧ KP M q.1 ∧ (0 ≤ q.2.toInt ∧ q.2.toInt ≤ 1) ∧ nx M ≤ nx q.1 ∧ (¬ q.2 = 0 → rd M 135 13 = 3) ∧ ∀ j, j ≠ i → rd q.1 137 j = rd M 137 j) := by
    intro y
    refine Sf.m (sX7_fail h.1) (fun M15 r p => ?_)
    have e : r = 0 := p.2.2.1
    subst e
    exact Sf.k (by decide) (Sf.ok ⟨h.ka p.1 p.2.1, KA.kp p.2.1, z01_0, by have := p.2.2.2; omega, fun q => absurd rfl q, fun j _ => KA.p p.2.1 j⟩)
  refine Sf.i (fun c3 => Sf.c (sX7_between (Int32.toInt_toInt64 _) (Int32.toInt_toInt64 _) (Int32.toInt_toInt64 _)) (fun r3 p3 => Sf.i (fun _ => no 3) (fun c => ?_))) (fun _ => no 2)
  have hv := p3.2.resolve_left (i_ne c)
  refine Sf.k (ok_in (by omega) (by omega)) (Sf.b (fun M8 e8 => ?_))
  rw [i_clamp, show x1.toInt.toNat = i by omega] at e8
  have e8 : M8 = wr M 137 i (rd M 135 14) := e8
  have r8 : ∀ j, j ≠ i → rd M8 137 j = rd M 137 j := fun j hj => by rw [e8]; exact rd_wj hj
  have h8 : PI M8 := by
    refine ⟨by rw [e8]; exact put137 h.1 ⟨by omega, by omega⟩, ?_, ?_, ?_, ?_⟩
    · rw [r8 1 (by omega), r8 0 (by omega)]; exact h.2.1
    · by_cases e : 36 = i
      · rw [← e] at e8 hlo
        rw [e8, rd_we]
        have := hlo.2 rfl
        omega
      · rw [r8 36 e]; exact h.2.2.1
    · rw [r8 52 (by omega)]; exact h.2.2.2.1
    · rw [r8 53 (by omega)]; exact h.2.2.2.2
  have k8 : KP M M8 := by rw [e8]; exact kp_wr
  have n8 : nx M8 = nx M := by unfold nx; rw [e8, rd_wk (by decide)]
  refine Sf.m (sX7_advance h8.1) (fun M11 r10 p => ?_)
  have e : r10 = 1 := p.1.2.2.1
  subst e
  exact Sf.k (by decide) (Sf.ok ⟨h8.ka p.1.1 p.1.2.1, k8.trans (KA.kp p.1.2.1), z01_1, by have := p.1.2.2.2; rw [n8] at this; exact this, fun _ => c3, fun j hj => (KA.p p.1.2.1 j).trans (r8 j hj)⟩)
/-- the next token, then a number: what is behind it -/
theorem sp_num {i : Nat} {k : Mem → Int32 → Option (Mem × Int32)} (h : PI M) (hi : x1.toInt = (i : Int) ∧ i < 86 ∧ i ≠ 0 ∧ i ≠ 1 ∧ i ≠ 52 ∧ i ≠ 53) (hlo : (bxS 0 i).1 ≤ x2.toInt ∧ (i = 36 → 1 ≤ x2.toInt)) (hhi : x3.toInt ≤ (bxS 0 i).2) (hk : ∀ M' r, PI M' → KP M M' → (0 ≤ r.toInt ∧ r.toInt ≤ 1) → nx M ≤ nx M' → (¬ r = 0 → rd M 135 13 = 3) → (∀ j, j ≠ i → rd M' 137 j = rd M 137 j) → Sf (k M' r) (SP M'')) : Sf (cal (mX7_number 135 x1 x2 x3 M) k) (SP M'') :=
  Sf.m (sX7_number h hi hlo hhi) (fun M' r p => hk M' r p.1 p.2.1 p.2.2.1 p.2.2.2.1 p.2.2.2.2.1 p.2.2.2.2.2)
theorem sp_no {r : Int32} (h : PI M') (k : KP M M') (hn : nx M ≤ nx M') (hr : r = 0) : SP M (M', r) := ⟨h, k, by rw [hr]; exact z01_0, hn, fun q => absurd hr q⟩
theorem sX7_sheetStatement (h : PI M) : Sf (mX7_sheetStatement 135 M) (SP M) := by
  unfold mX7_sheetStatement
  refine Sf.m (sX7_advance h.1) (fun M3 r2 p => ?_)
  have h3 := h.ka p.1.1 p.1.2.1
  have k3 : KP M M3 := KA.kp p.1.2.1
  have n3 : nx M ≤ nx M3 := p.1.2.2.2
  refine sp_num (i := 36) h3 (by decide) (by decide) (by decide) (fun M6 r5 h6 k6 b6 n6 c6 _ => Sf.i (fun _ => Sf.ok (sp_no h6 (k3.trans k6) (by omega) rfl)) (fun c => ?_))
  have st := p.2 (c6 c)
  have st : nx M < nx M3 := st
  refine sp_num (i := 37) h6 (by decide) (by decide) (by decide) (fun M10 r9 h10 k10 b10 n10 _ _ => Sf.i (fun _ => Sf.ok (sp_no h10 ((k3.trans k6).trans k10) (by omega) rfl)) (fun _ => ?_))
  refine sp_num (i := 38) h10 (by decide) (by decide) (by decide) (fun M14 r13 h14 k14 b14 n14 _ _ => Sf.i (fun _ => Sf.ok (sp_no h14 (((k3.trans k6).trans k10).trans k14) (by omega) rfl)) (fun _ => Sf.ok ⟨h14, ((k3.trans k6).trans k10).trans k14, z01_1, by show nx M ≤ nx M14; omega, fun _ => by show nx M < nx M14; omega⟩))
theorem sX7_costStatement (h : PI M) : Sf (mX7_costStatement 135 M) (SP M) := by
  unfold mX7_costStatement
  refine Sf.m (sX7_advance h.1) (fun M3 r2 p => ?_)
  have h3 := h.ka p.1.1 p.1.2.1
  have k3 : KP M M3 := KA.kp p.1.2.1
  have n3 : nx M ≤ nx M3 := p.1.2.2.2
  refine sp_num (i := 49) h3 (by decide) (by decide) (by decide) (fun M6 r5 h6 k6 b6 n6 c6 _ => Sf.i (fun _ => Sf.ok (sp_no h6 (k3.trans k6) (by omega) rfl)) (fun c => ?_))
  have st : nx M < nx M3 := p.2 (c6 c)
  refine sp_num (i := 50) h6 (by decide) (by decide) (by decide) (fun M10 r9 h10 k10 b10 n10 _ _ => Sf.i (fun _ => Sf.ok (sp_no h10 ((k3.trans k6).trans k10) (by omega) rfl)) (fun _ => ?_))
  refine sp_num (i := 51) h10 (by decide) (by decide) (by decide) (fun M14 r13 h14 k14 b14 n14 _ _ => Sf.i (fun _ => Sf.ok (sp_no h14 (((k3.trans k6).trans k10).trans k14) (by omega) rfl)) (fun _ => Sf.ok ⟨h14, ((k3.trans k6).trans k10).trans k14, z01_1, by show nx M ≤ nx M14; omega, fun _ => by show nx M < nx M14; omega⟩))
theorem sX7_legStatement (h : PI M) : Sf (mX7_legStatement 135 M) (SP M) := by
  unfold mX7_legStatement
  refine Sf.k (by decide) (Sf.i (fun _ => Sf.m (sX7_advance h.1) (fun M3 r2 p => ?_)) (fun _ => sp_fail h))
  have h3 := h.ka p.1.1 p.1.2.1
  have k3 : KP M M3 := KA.kp p.1.2.1
  have n3 : nx M ≤ nx M3 := p.1.2.2.2
  refine sp_num (i := 2) h3 (by decide) (by decide) (by decide) (fun M8 r7 h8 k8 b8 n8 c8 _ => Sf.i (fun _ => Sf.ok (sp_no h8 (k3.trans k8) (by omega) rfl)) (fun c => Sf.k (by decide) (Sf.b (fun M12 e12 => Sf.ok ?_))))
  have st : nx M < nx M3 := p.2 (c8 c)
  have e12 : M12 = wr M8 137 1 1 := e12
  have b0 : (0 : Int) ≤ (rd M8 137 0).toInt ∧ (rd M8 137 0).toInt ≤ 8 := h8.1.std 137 0
  have r12 : ∀ j, j ≠ 1 → rd M12 137 j = rd M8 137 j := fun j hj => by rw [e12]; exact rd_wj hj
  have n12 : nx M12 = nx M8 := by unfold nx; rw [e12, rd_wk (by decide)]
  refine ⟨⟨by show OKm gS M12; rw [e12]; exact put137 h8.1 (by decide), ?_, ?_, ?_, ?_⟩, ?_, z01_1, by show nx M ≤ nx M12; omega, fun _ => by show nx M < nx M12; omega⟩
  · show (rd M12 137 1).toInt ≤ (rd M12 137 0).toInt + 1
    rw [r12 0 (by decide), e12, rd_we, show ((1 : Int32)).toInt = 1 from rfl]; omega
  · show 1 ≤ (rd M12 137 36).toInt
    rw [r12 36 (by decide)]; exact h8.2.2.1
  · show rd M12 137 52 = 0
    rw [r12 52 (by decide)]; exact h8.2.2.2.1
  · show rd M12 137 53 = 0
    rw [r12 53 (by decide)]; exact h8.2.2.2.2
  · show KP M M12
    rw [e12]; exact (k3.trans k8).trans kp_wr
theorem bx_leg0 : ∀ j, j < 8 → bxS 0 (3 + j) = (0, 9999) ∧ bxS 0 (11 + j) = (0, 1) := by decide
theorem bx_back0 : ∀ j, j < 8 → bxS 0 (20 + 2 * j) = (0, 999) ∧ bxS 0 (21 + 2 * j) = (0, 999) := by decide
theorem bx_tool0 : ∀ j, j < 5 → bxS 0 (39 + 2 * j) = (0, 9999) ∧ bxS 0 (40 + 2 * j) = (0, 9999) := by decide
theorem sX7_bendStatement {x : Int32} (h : PI M) : Sf (mX7_bendStatement 135 x M) (SP M) := by
  unfold mX7_bendStatement
  refine Sf.k (by decide) (Sf.i (fun _ => sp_fail h) (fun _ => Sf.k (by decide) (Sf.b (fun b eb => Sf.i (fun _ => sp_fail h) (fun c8 => Sf.m (sX7_advance h.1) (fun M3 r2 p => ?_))))))
  have eb : b = rd M 137 0 := eb
  have h3 := h.ka p.1.1 p.1.2.1
  have k3 : KP M M3 := KA.kp p.1.2.1
  have q3 : ∀ j, rd M3 137 j = rd M 137 j := KA.p p.1.2.1
  have n3 : nx M ≤ nx M3 := p.1.2.2.2
  have b0 : (0 : Int) ≤ (rd M 137 0).toInt ∧ (rd M 137 0).toInt ≤ 8 := h.1.std 137 0
  have b1 : (0 : Int) ≤ (rd M 137 1).toInt ∧ (rd M 137 1).toInt ≤ 9 := h.1.std 137 1
  rw [← eb] at b0
  have c8 := i_ne c8
  rw [show ((8 : Int32)).toInt = 8 from rfl] at c8
  have n2 : ((2 : Int32)).toInt = 2 := rfl
  have n1 : ((1 : Int32)).toInt = 1 := rfl
  have n11 : ((11 : Int32)).toInt = 11 := rfl
  have e1 := i_add (a := (2 : Int32)) (b := b) (by omega) (by omega)
  have e2 := i_add (a := (2 : Int32) + b) (b := 1) (by omega) (by omega)
  have e3 := i_add (a := (11 : Int32)) (b := b) (by omega) (by omega)
  have bx := bx_leg0 b.toInt.toNat (by omega)
  refine sp_num (i := 3 + b.toInt.toNat) h3 ⟨by omega, by omega, by omega, by omega, by omega, by omega⟩ (by rw [bx.1]; exact ⟨by decide, fun q => by omega⟩) (by rw [bx.1]; decide) (fun M11 r10 h11 k11 b11 nn11 c11 q11 => Sf.i (fun _ => Sf.ok (sp_no h11 (k3.trans k11) (by omega) rfl)) (fun c => ?_))
  have st : nx M < nx M3 := p.2 (c11 c)
  have b74 : ∀ y : Int32, 0 ≤ y.toInt ∧ y.toInt ≤ 1 → Sf (mX7_bendStatement_b74 135 ((11 : Int32) + b) y M11) (SP M) := by
    intro y hy
    unfold mX7_bendStatement_b74
    refine Sf.k (ok_in (by omega) (by omega)) (Sf.b (fun M16 e16 => Sf.k (by decide) (Sf.k (by decide) (Sf.b (fun M20 e20 => Sf.k (by decide) (Sf.k (by decide) (Sf.b (fun M24 e24 => Sf.ok ?_))))))))
    rw [i_clamp, show ((11 : Int32) + b).toInt.toNat = 11 + b.toInt.toNat by omega] at e16
    have e16 : M16 = wr M11 137 (11 + b.toInt.toNat) y := e16
    have e20 : M20 = wr M16 137 0 (rd M16 137 0 + 1) := e20
    have e24 : M24 = wr M20 137 1 (rd M20 137 1 + 1) := e24
    have o16 : OKm gS M16 := by rw [e16]; exact put137 h11.1 (by rw [bx.2]; exact hy)
    have v0 : rd M16 137 0 = b := by rw [e16, rd_wj (by omega), q11 0 (by omega), q3, eb]
    have v1 : rd M16 137 1 = rd M 137 1 := by rw [e16, rd_wj (by omega), q11 1 (by omega), q3]
    rw [v0] at e20
    have w1 : rd M20 137 1 = rd M 137 1 := by rw [e20, rd_wj (by decide)]; exact v1
    rw [w1] at e24
    have tb := i_add (a := b) (b := 1) (by omega) (by omega)
    have h21 := h.2.1
    rw [← eb] at h21
    have tl := i_add (a := rd M 137 1) (b := 1) (by omega) (by omega)
    have o20 : OKm gS M20 := by rw [e20]; exact put137 o16 ⟨by show (0 : Int) ≤ _; omega, by show _ ≤ (8 : Int); omega⟩
    have o24 : OKm gS M24 := by rw [e24]; exact put137 o20 ⟨by show (0 : Int) ≤ _; omega, by show _ ≤ (9 : Int); omega⟩
    have r24 : ∀ j, 19 ≤ j → rd M24 137 j = rd M11 137 j := fun j hj => by rw [e24, rd_wj (by omega), e20, rd_wj (by omega), e16, rd_wj (by omega)]
    have n24 : nx M24 = nx M11 := by unfold nx; rw [e24, rd_wk (by decide), e20, rd_wk (by decide), e16, rd_wk (by decide)]
    refine ⟨⟨o24, ?_, ?_, ?_, ?_⟩, ?_, z01_1, by show nx M ≤ nx M24; omega, fun _ => by show nx M < nx M24; omega⟩
    · show (rd M24 137 1).toInt ≤ (rd M24 137 0).toInt + 1
      rw [e24, rd_we, rd_wj (by decide), e20, rd_we]; omega
    · show 1 ≤ (rd M24 137 36).toInt
      rw [r24 36 (by decide)]; exact h11.2.2.1
    · show rd M24 137 52 = 0
      rw [r24 52 (by decide)]; exact h11.2.2.2.1
    · show rd M24 137 53 = 0
      rw [r24 53 (by decide)]; exact h11.2.2.2.2
    · show KP M M24
      rw [e24, e20, e16]; exact (((k3.trans k11).trans kp_wr).trans kp_wr).trans kp_wr
  exact Sf.i (fun _ => b74 0 (by decide)) (fun _ => b74 1 (by decide))
theorem sX7_backStatement (h : PI M) : Sf (mX7_backStatement 135 M) (SP M) := by
  unfold mX7_backStatement
  refine Sf.k (by decide) (Sf.b (fun b eb => Sf.i (fun _ => sp_fail h) (fun c8 => Sf.m (sX7_advance h.1) (fun M3 r2 p => ?_))))
  have eb : b = rd M 137 19 := eb
  have h3 := h.ka p.1.1 p.1.2.1
  have k3 : KP M M3 := KA.kp p.1.2.1
  have q3 : ∀ j, rd M3 137 j = rd M 137 j := KA.p p.1.2.1
  have n3 : nx M ≤ nx M3 := p.1.2.2.2
  have b0 : (0 : Int) ≤ (rd M 137 19).toInt ∧ (rd M 137 19).toInt ≤ 8 := h.1.std 137 19
  rw [← eb] at b0
  have c8 := i_ne c8
  rw [show ((8 : Int32)).toInt = 8 from rfl] at c8
  have n20 : ((20 : Int32)).toInt = 20 := rfl
  have n2 : ((2 : Int32)).toInt = 2 := rfl
  have n1 : ((1 : Int32)).toInt = 1 := rfl
  have e1 := i_mulc (a := (2 : Int32)) (b := b) (c := 2) rfl (by omega) (by omega)
  have e2 := i_add (a := (20 : Int32)) (b := (2 : Int32) * b) (by omega) (by omega)
  have e3 := i_add (a := (20 : Int32) + (2 : Int32) * b) (b := 1) (by omega) (by omega)
  have e4 := i_sub (a := (20 : Int32) + (2 : Int32) * b) (b := 2) (by omega) (by omega)
  have bx := bx_back0 b.toInt.toNat (by omega)
  have b48 : ∀ y : Int32, 0 ≤ y.toInt → Sf (mX7_backStatement_b48 135 b y M3) (SP M) := by
    intro y hy
    unfold mX7_backStatement_b48
    refine sp_num (i := 20 + 2 * b.toInt.toNat) h3 ⟨by omega, by omega, by omega, by omega, by omega, by omega⟩ (by rw [bx.1]; exact ⟨hy, fun q => by omega⟩) (by rw [bx.1]; decide) (fun M11 r10 h11 k11 b11 nn11 c11 q11 => Sf.i (fun _ => Sf.ok (sp_no h11 (k3.trans k11) (by omega) rfl)) (fun c => ?_))
    have st : nx M < nx M3 := p.2 (c11 c)
    refine sp_num (i := 21 + 2 * b.toInt.toNat) h11 ⟨by omega, by omega, by omega, by omega, by omega, by omega⟩ (by rw [bx.2]; exact ⟨by decide, fun q => by omega⟩) (by rw [bx.2]; decide) (fun M15 r14 h15 k15 b15 nn15 c15 q15 => Sf.i (fun _ => Sf.ok (sp_no h15 ((k3.trans k11).trans k15) (by omega) rfl)) (fun _ => Sf.k (by decide) (Sf.k (by decide) (Sf.b (fun M20 e20 => Sf.ok ?_)))))
    have e20 : M20 = wr M15 137 19 (rd M15 137 19 + 1) := e20
    have v19 : rd M15 137 19 = b := by rw [q15 19 (by omega), q11 19 (by omega), q3, eb]
    rw [v19] at e20
    have tb := i_add (a := b) (b := 1) (by omega) (by omega)
    have r20 : ∀ j, j ≠ 19 → rd M20 137 j = rd M15 137 j := fun j hj => by rw [e20, rd_wj hj]
    have nn20 : nx M20 = nx M15 := by unfold nx; rw [e20, rd_wk (by decide)]
    refine ⟨⟨by show OKm gS M20; rw [e20]; exact put137 h15.1 ⟨by show (0 : Int) ≤ _; omega, by show _ ≤ (8 : Int); omega⟩, ?_, ?_, ?_, ?_⟩, ?_, z01_1, by show nx M ≤ nx M20; omega, fun _ => by show nx M < nx M20; omega⟩
    · show (rd M20 137 1).toInt ≤ (rd M20 137 0).toInt + 1
      rw [r20 1 (by decide), r20 0 (by decide)]; exact h15.2.1
    · show 1 ≤ (rd M20 137 36).toInt
      rw [r20 36 (by decide)]; exact h15.2.2.1
    · show rd M20 137 52 = 0
      rw [r20 52 (by decide)]; exact h15.2.2.2.1
    · show rd M20 137 53 = 0
      rw [r20 53 (by decide)]; exact h15.2.2.2.2
    · show KP M M20
      rw [e20]; exact ((k3.trans k11).trans k15).trans kp_wr
  refine Sf.i (fun _ => b48 0 (by decide)) (fun c0 => ?_)
  have c0 := i_ne c0
  rw [show ((0 : Int32)).toInt = 0 from rfl] at c0
  refine Sf.k (ok_in (by omega) (by omega)) (b48 _ ?_)
  have bq : (0 : Int) ≤ (rd M3 (135 + 2) ((20 : Int32) + (2 : Int32) * b - (2 : Int32)).toNatClampNeg).toInt ∧ (rd M3 (135 + 2) ((20 : Int32) + (2 : Int32) * b - (2 : Int32)).toNatClampNeg).toInt ≤ 999 := h3.1.ri 20 35 (by decide +kernel) (by omega) (by omega)
  rw [i_add (by omega) (by omega)]
  omega
theorem sX7_toolStatement (h : PI M) (hx : 0 ≤ x1.toInt ∧ x1.toInt ≤ 4) : Sf (mX7_toolStatement 135 x1 M) (SP M) := by
  unfold mX7_toolStatement
  refine Sf.m (sX7_advance h.1) (fun M3 r2 p => Sf.b (fun i ei => ?_))
  have h3 := h.ka p.1.1 p.1.2.1
  have k3 : KP M M3 := KA.kp p.1.2.1
  have n3 : nx M ≤ nx M3 := p.1.2.2.2
  have n39 : ((39 : Int32)).toInt = 39 := rfl
  have n1 : ((1 : Int32)).toInt = 1 := rfl
  have e1 := i_mulc (a := (2 : Int32)) (b := x1) (c := 2) rfl (by omega) (by omega)
  have e2 := i_add (a := (39 : Int32)) (b := (2 : Int32) * x1) (by omega) (by omega)
  have ti : i.toInt = 39 + 2 * x1.toInt := by rw [ei, e2, e1, n39]
  have e3 := i_add (a := i) (b := 1) (by omega) (by omega)
  have bx := bx_tool0 x1.toInt.toNat (by omega)
  refine sp_num (i := 39 + 2 * x1.toInt.toNat) h3 ⟨by omega, by omega, by omega, by omega, by omega, by omega⟩ (by rw [bx.1]; exact ⟨by decide, fun q => by omega⟩) (by rw [bx.1]; decide) (fun M7 r6 h7 k7 b7 nn7 c7 q7 => Sf.i (fun _ => Sf.ok (sp_no h7 (k3.trans k7) (by omega) rfl)) (fun c => ?_))
  have st : nx M < nx M3 := p.2 (c7 c)
  have b59 : ∀ M', PI M' → KP M M' → nx M7 ≤ nx M' → Sf (mX7_toolStatement_b59 135 M') (SP M) := by
    intro M' h' k' n'
    unfold mX7_toolStatement_b59
    exact Sf.ok ⟨h', k', z01_1, by show nx M ≤ nx M'; omega, fun _ => by show nx M < nx M'; omega⟩
  have b50 : ∀ y : Int32, 0 ≤ y.toInt → Sf (mX7_toolStatement_b50 135 (i + 1) y M7) (SP M) := by
    intro y hy
    unfold mX7_toolStatement_b50
    refine sp_num (i := 40 + 2 * x1.toInt.toNat) h7 ⟨by omega, by omega, by omega, by omega, by omega, by omega⟩ (by rw [bx.2]; exact ⟨hy, fun q => by omega⟩) (by rw [bx.2]; decide) (fun M13 r12 h13 k13 b13 nn13 _ _ => Sf.i (fun _ => Sf.ok (sp_no h13 ((k3.trans k7).trans k13) (by omega) rfl)) (fun _ => b59 M13 h13 ((k3.trans k7).trans k13) nn13))
  refine Sf.i (fun _ => b59 M7 h7 (k3.trans k7) (by omega)) (fun _ => Sf.i (fun _ => Sf.k (ok_in (by omega) (by omega)) (b50 _ ?_)) (fun _ => b50 0 (by decide)))
  have bq : (0 : Int) ≤ (rd M7 (135 + 2) i.toNatClampNeg).toInt ∧ (rd M7 (135 + 2) i.toNatClampNeg).toInt ≤ 9999 := h7.1.ri 39 48 (by decide +kernel) (by omega) (by omega)
  exact bq.1
theorem sX7_toolHere (h : OKm gS M) : Sf (mX7_toolHere 135 M) (pI (-1) 4) := by
  unfold mX7_toolHere
  refine Sf.c (sX7_isWord (by decide) h) (fun _ _ => Sf.i (fun _ => ?_) (fun _ => Sf.ok (by decide)))
  refine Sf.c (sX7_isWord (by decide) h) (fun _ _ => Sf.i (fun _ => ?_) (fun _ => Sf.ok (by decide)))
  refine Sf.c (sX7_isWord (by decide) h) (fun _ _ => Sf.i (fun _ => ?_) (fun _ => Sf.ok (by decide)))
  refine Sf.c (sX7_isWord (by decide) h) (fun _ _ => Sf.i (fun _ => ?_) (fun _ => Sf.ok (by decide)))
  exact Sf.c (sX7_isWord (by decide) h) (fun _ _ => Sf.i (fun _ => Sf.ok (by decide)) (fun _ => Sf.ok (by decide)))
theorem sp_B {x : Option (Mem × Int32)} (hx : Sf x (SP M)) : Sf (cal x (fun M38 r37 => chk (isB r37) (some (M38, r37)))) (SP M) :=
  Sf.m hx (fun M38 r37 p => Sf.k (isB_in p.2.2.1) (Sf.ok p))
theorem sX7_statement (h : PI M) : Sf (mX7_statement 135 M) (SP M) := by
  have b46 : Sf (mX7_statement_b46 135 M) (SP M) := by
    unfold mX7_statement_b46
    exact Sf.c (sX7_isWord (by decide) h.1) (fun r _ => sp_B (sX7_bendStatement h))
  unfold mX7_statement
  refine Sf.c (sX7_isWord (by decide) h.1) (fun _ _ => Sf.i (fun _ => ?_) (fun _ => sp_B (sX7_sheetStatement h)))
  refine Sf.c (sX7_isWord (by decide) h.1) (fun _ _ => Sf.i (fun _ => ?_) (fun _ => sp_B (sX7_legStatement h)))
  refine Sf.c (sX7_isWord (by decide) h.1) (fun _ _ => Sf.i (fun _ => ?_) (fun _ => b46))
  refine Sf.c (sX7_isWord (by decide) h.1) (fun _ _ => Sf.i (fun _ => ?_) (fun _ => b46))
  refine Sf.c (sX7_isWord (by decide) h.1) (fun _ _ => Sf.i (fun _ => ?_) (fun _ => sp_B (sX7_backStatement h)))
  refine Sf.c (sX7_isWord (by decide) h.1) (fun _ _ => Sf.i (fun _ => ?_) (fun _ => sp_B (sX7_costStatement h)))
  refine Sf.c (sX7_toolHere h.1) (fun r p => Sf.i (fun _ => sp_fail h) (fun c => sp_B (sX7_toolStatement h ?_)))
  have c := i_ne c
  rw [show ((-1 : Int32)).toInt = -1 from rfl] at c
  obtain ⟨pa, pb⟩ := p
  omega
theorem sX7_closed (h : PI M) : Sf (mX7_closed 135 M) (fun q => PI q.1 ∧ KP M q.1 ∧ (0 ≤ q.2.toInt ∧ q.2.toInt ≤ 1) ∧ nx M ≤ nx q.1) := by
  unfold mX7_closed
  refine Sf.i (fun _ => Sf.m (sX7_advance h.1) (fun M4 r3 p => ?_)) (fun _ => Sf.m (sX7_fail h.1) (fun M8 r7 p => ?_))
  · have e : r3 = 1 := p.1.2.2.1
    subst e
    exact Sf.k (by decide) (Sf.ok ⟨h.ka p.1.1 p.1.2.1, KA.kp p.1.2.1, z01_1, p.1.2.2.2⟩)
  · have e : r7 = 0 := p.2.2.1
    subst e
    exact Sf.k (by decide) (Sf.ok ⟨h.ka p.1 p.2.1, KA.kp p.2.1, z01_0, by have := p.2.2.2; omega⟩)
end PJ
end
/-! part 59k.load -/
section
/-! the reference's load, feed -/
section LK
variable {M M' M0 : Mem} {n m : Nat} {x1 x2 x3 x4 x5 : Int32}
theorem lay_s {i : Int32} {j : Nat} {a b c : Int32} (h : OKm gS M) (hi : i.toInt = (j : Int) ∧ j + 2 < 86) (ha : (bxS 0 j).1 ≤ a.toInt ∧ a.toInt ≤ (bxS 0 j).2) (hb : (bxS 0 (j + 1)).1 ≤ b.toInt ∧ b.toInt ≤ (bxS 0 (j + 1)).2) (hc : (bxS 0 (j + 2)).1 ≤ c.toInt ∧ c.toInt ≤ (bxS 0 (j + 2)).2) : Sf (mX7_lay 135 i a b c M) (fun q => OKm gS q.1 ∧ KP M q.1 ∧ rd q.1 137 j = a ∧ ∀ p, ¬ (j ≤ p ∧ p ≤ j + 2) → rd q.1 137 p = rd M 137 p) := by
  unfold mX7_lay
  have n1 : ((1 : Int32)).toInt = 1 := rfl
  have n2 : ((2 : Int32)).toInt = 2 := rfl
  have e1 := i_add (a := i) (b := 1) (by omega) (by omega)
  have e2 := i_add (a := i) (b := 2) (by omega) (by omega)
  refine Sf.k (ok_in (by omega) (by omega)) (Sf.b (fun M3 e3 => Sf.k (ok_in (by omega) (by omega)) (Sf.b (fun M6 e6 => Sf.k (ok_in (by omega) (by omega)) (Sf.b (fun M9 e9 => Sf.ok ?_))))))
  rw [i_clamp, show i.toInt.toNat = j by omega] at e3
  rw [i_clamp, show (i + 1).toInt.toNat = j + 1 by omega] at e6
  rw [i_clamp, show (i + 2).toInt.toNat = j + 2 by omega] at e9
  have e3 : M3 = wr M 137 j a := e3
  have e6 : M6 = wr M3 137 (j + 1) b := e6
  have e9 : M9 = wr M6 137 (j + 2) c := e9
  have o3 : OKm gS M3 := by rw [e3]; exact put137 h ha
  have o6 : OKm gS M6 := by rw [e6]; exact put137 o3 hb
  refine ⟨by show OKm gS M9; rw [e9]; exact put137 o6 hc, ?_, ?_, fun p hp => ?_⟩
  · show KP M M9
    rw [e9, e6, e3]; exact (kp_wr.trans kp_wr).trans kp_wr
  · show rd M9 137 j = a
    rw [e9, rd_wj (by omega), e6, rd_wj (by omega), e3, rd_we]
  · show rd M9 137 p = _
    rw [e9, rd_wj (by omega), e6, rd_wj (by omega), e3, rd_wj (by omega)]
theorem reset_l : ∀ (fuel i : Nat) (M : Mem), i ≤ 86 → OKm gS M → KP M0 M → (∀ p, p < i → rd M 137 p = 0) → 86 - i < fuel → Sf (mX7_reset_l2 135 fuel (Int32.ofNat i) M) (fun q => PI q.1 ∧ KP M0 q.1) := by
  intro fuel
  induction fuel with
  | zero => intro i M _ _ _ _ h; exfalso; omega
  | succ fuel IH =>
    intro i M hi h hk hz hf
    show Sf (mX7_reset_b2 135 (mX7_reset_l2 135 fuel) (Int32.ofNat i) M) _
    unfold mX7_reset_b2
    have ti : (Int32.ofNat i).toInt = (i : Int) := t_of (by omega)
    refine Sf.i (fun c => ?_) (fun c => ?_)
    · have c := i_le.mp c
      rw [ti, show ((86 : Int32)).toInt = 86 from rfl] at c
      refine Sf.m (lay_s (j := 36) h (by decide) (by decide) (by decide) (by decide)) (fun M4 _ p4 => ?_)
      refine Sf.m (lay_s (j := 39) p4.1 (by decide) (by decide) (by decide) (by decide)) (fun M7 _ p7 => ?_)
      refine Sf.m (lay_s (j := 42) p7.1 (by decide) (by decide) (by decide) (by decide)) (fun M10 _ p10 => ?_)
      refine Sf.m (lay_s (j := 45) p10.1 (by decide) (by decide) (by decide) (by decide)) (fun M13 _ p13 => ?_)
      refine Sf.m (lay_s (j := 49) p13.1 (by decide) (by decide) (by decide) (by decide)) (fun M16 _ p16 => Sf.ok ?_)
      have z : ∀ p, p < 36 ∨ (52 ≤ p ∧ p < 86) → rd M16 137 p = 0 := fun p hp => by
        have q16 : rd M16 137 p = rd M13 137 p := p16.2.2.2 p (by omega)
        have q13 : rd M13 137 p = rd M10 137 p := p13.2.2.2 p (by omega)
        have q10 : rd M10 137 p = rd M7 137 p := p10.2.2.2 p (by omega)
        have q7 : rd M7 137 p = rd M4 137 p := p7.2.2.2 p (by omega)
        have q4 : rd M4 137 p = rd M 137 p := p4.2.2.2 p (by omega)
        rw [q16, q13, q10, q7, q4]
        exact hz p (by omega)
      have z36 : rd M16 137 36 = 10 := by
        have q16 : rd M16 137 36 = rd M13 137 36 := p16.2.2.2 36 (by omega)
        have q13 : rd M13 137 36 = rd M10 137 36 := p13.2.2.2 36 (by omega)
        have q10 : rd M10 137 36 = rd M7 137 36 := p10.2.2.2 36 (by omega)
        have q7 : rd M7 137 36 = rd M4 137 36 := p7.2.2.2 36 (by omega)
        have q4 : rd M4 137 36 = 10 := p4.2.2.1
        rw [q16, q13, q10, q7, q4]
      refine ⟨⟨p16.1, ?_, ?_, z 52 (by omega), z 53 (by omega)⟩, ((((hk.trans p4.2.1).trans p7.2.1).trans p10.2.1).trans p13.2.1).trans p16.2.1⟩
      · show (rd M16 137 1).toInt ≤ (rd M16 137 0).toInt + 1
        rw [z 1 (by omega), z 0 (by omega)]; decide
      · show 1 ≤ (rd M16 137 36).toInt
        rw [z36]; decide
    · have c := i_nle c
      rw [ti, show ((86 : Int32)).toInt = 86 from rfl] at c
      refine Sf.k (ok_in (by omega) (by omega)) (Sf.b (fun M19 e19 => Sf.b (fun y ey => ?_)))
      rw [c_of (by omega)] at e19
      have e19 : M19 = wr M 137 i 0 := e19
      have ey : y = Int32.ofNat (i + 1) := ey.trans (Int32.ofNat_add i 1).symm
      rw [ey]
      have key : ∀ i, i < 86 → (bxS 0 i).1 ≤ 0 ∧ 0 ≤ (bxS 0 i).2 := by decide
      refine IH (i + 1) M19 (by omega) (by rw [e19]; exact put137 h (key i (by omega))) (by rw [e19]; exact hk.trans kp_wr) (fun p hp => ?_) (by omega)
      rw [e19]
      by_cases e : p = i
      · subst e; exact rd_we
      · rw [rd_wj e]; exact hz p (by omega)
theorem sX7_reset (h : OKm gS M) : Sf (mX7_reset 135 M) (fun q => PI q.1 ∧ KP M q.1) := by
  unfold mX7_reset
  exact reset_l 5000 0 M (by omega) h (fun _ _ _ _ => rfl) (fun p hp => absurd hp (by omega)) (by omega)
theorem copy_l (h36 : 1 ≤ (rd M0 137 36).toInt) : ∀ (fuel i : Nat) (M : Mem), i ≤ 86 → OKm gS M → (∀ k j, k ≠ 136 → rd M k j = rd M0 k j) → (∀ p, p < i → rd M 136 p = rd M0 137 p) → 86 - i < fuel → Sf (mX7_copy_l2 137 136 fuel (Int32.ofNat i) M) (fun q => OKm gS q.1 ∧ (∀ k j, k ≠ 136 → rd q.1 k j = rd M0 k j) ∧ ∀ p, p < 86 → rd q.1 136 p = rd M0 137 p) := by
  intro fuel
  induction fuel with
  | zero => intro i M _ _ _ _ h; exfalso; omega
  | succ fuel IH =>
    intro i M hi h hk hz hf
    show Sf (mX7_copy_b2 137 136 (mX7_copy_l2 137 136 fuel) (Int32.ofNat i) M) _
    unfold mX7_copy_b2
    have ti : (Int32.ofNat i).toInt = (i : Int) := t_of (by omega)
    refine Sf.i (fun c => Sf.ok ?_) (fun c => ?_)
    · have c := i_le.mp c
      rw [ti, show ((86 : Int32)).toInt = 86 from rfl] at c
      exact ⟨h, hk, fun p hp => hz p (by omega)⟩
    · have c := i_nle c
      rw [ti, show ((86 : Int32)).toInt = 86 from rfl] at c
      refine Sf.k (ok_in (by omega) (by omega)) (Sf.k (ok_in (by omega) (by omega)) (Sf.b (fun M5 e5 => Sf.b (fun y ey => ?_))))
      rw [c_of (by omega)] at e5
      have ey : y = Int32.ofNat (i + 1) := ey.trans (Int32.ofNat_add i 1).symm
      rw [ey]
      have b1 : (bxS 0 i).1 ≤ (rd M 137 i).toInt ∧ (rd M 137 i).toInt ≤ (bxS 0 i).2 := h.std 137 i
      have b2 : (bxS 1 i).1 ≤ (rd M 137 i).toInt ∧ (rd M 137 i).toInt ≤ (bxS 1 i).2 := by
        by_cases e9 : i = 36
        · subst e9
          rw [hk 137 36 (by decide)] at b1 ⊢
          exact ⟨h36, b1.2⟩
        · have key : ∀ i, i < 86 → i ≠ 36 → bxS 1 i = bxS 0 i := by decide
          rw [key i (by omega) e9]; exact b1
      refine IH (i + 1) M5 (by omega) (by rw [e5]; exact put136 h b2) (fun k j k1 => by rw [e5, rd_wk k1]; exact hk k j k1) (fun p hp => ?_) (by omega)
      by_cases e : p = i
      · subst e; rw [e5, rd_we]; exact hk 137 p (by decide)
      · rw [e5, rd_wj e]; exact hz p (by omega)
/-- what a text leaves behind it -/
def LPq (M0 : Mem) (q : Mem × Int32) : Prop := MI q.1 ∧ rd q.1 135 7 = rd M0 135 7
theorem load_end {x : Int32} (h : PI M) (hM : MI M) : Sf (mX7_load_b102 135 x M) (LPq M) := by
  unfold mX7_load_b102
  refine Sf.b (fun M25 e25 => Sf.b (fun M27 e27 => ?_))
  have o25 : OKm gS M25 := by rw [e25]; exact hM.1.put (b := bT) rfl (i_rng _)
  have o27 : OKm gS M27 := by rw [e27]; exact o25.put (b := bT) rfl (i_rng _)
  have r27 : ∀ k j, ¬ (k = 135 ∧ (j = 8 ∨ j = 9)) → rd M27 k j = rd M k j := fun k j q => by
    rw [e27]
    by_cases k1 : k = 135
    · subst k1; rw [rd_wj (by omega), e25, rd_wj (by omega)]
    · rw [rd_wk k1, e25, rd_wk k1]
  obtain ⟨_, ⟨n, m, hR⟩, hH⟩ := hM
  refine Sf.i (fun _ => Sf.ok ⟨⟨o27, ⟨n, m, hR.of (fun j => r27 136 j (by omega))⟩, fun e he => ?_⟩, r27 135 7 (by omega)⟩) (fun _ => ?_)
  · rw [r27 135 4 (by omega)] at he
    obtain ⟨n, m, hr⟩ := hH e he
    exact ⟨n, m, hr.of (fun j => r27 139 _ (by omega))⟩
  · have h36 : 1 ≤ (rd M27 137 36).toInt := by rw [r27 137 36 (by omega)]; exact h.2.2.1
    refine Sf.m (Q := fun q => OKm gS q.1 ∧ (∀ k j, k ≠ 136 → rd q.1 k j = rd M27 k j) ∧ ∀ p, p < 86 → rd q.1 136 p = rd M27 137 p) ?_ (fun M32 _ p => Sf.b (fun M33 e33 => Sf.k (by decide) (Sf.ok ?_)))
    · unfold mX7_copy
      exact copy_l h36 5000 0 M27 (by omega) o27 (fun _ _ _ => rfl) (fun p hp => absurd hp (by omega)) (by omega)
    · have o32 : OKm gS M32 := p.1
      have k32 : ∀ k j, k ≠ 136 → rd M32 k j = rd M27 k j := p.2.1
      have c32 : ∀ j, j < 86 → rd M32 136 j = rd M27 137 j := p.2.2
      have r33 : ∀ j, j < 86 → rd M33 136 j = rd M 137 j := fun j hj => by rw [e33, rd_wk (by decide), c32 j hj, r27 137 j (by omega)]
      have b0 : (0 : Int) ≤ (rd M 137 0).toInt ∧ (rd M 137 0).toInt ≤ 8 := h.1.std 137 0
      refine ⟨⟨by show OKm gS M33; rw [e33]; exact putE o32 (by decide), ⟨(rd M 137 0).toInt.toNat, 0, ?_⟩, fun e he => ?_⟩, ?_⟩
      · have hn : (rd M 137 0).toInt.toNat < 9 := by omega
        have hp := z_pow _ hn
        refine ⟨(r33 0 (by omega)).trans (o_of b0.1), hn, by show rd M33 136 52 = _; rw [r33 52 (by omega), h.2.2.2.1]; rfl, by omega, by show 1 ≤ (rd M33 136 36).toInt; rw [r33 36 (by omega)]; exact h.2.2.1, 0, by show rd M33 136 53 = _; rw [r33 53 (by omega), h.2.2.2.2]; rfl, by rw [cntz0]; omega, fun j hj => absurd hj (by omega)⟩
      · have e4 : rd M33 135 4 = 0 := by rw [e33]; exact rd_we
        have he : (e : Int) < (rd M33 135 4).toInt := he
        rw [e4, show ((0 : Int32)).toInt = 0 from rfl] at he
        omega
      · show rd M33 135 7 = _
        rw [e33, rd_wj (by decide), k32 135 7 (by decide), r27 135 7 (by omega)]
theorem MI.kp (h : MI M) (h' : OKm gS M') (k : KP M M') : MI M' ∧ rd M' 135 7 = rd M 135 7 := by
  obtain ⟨_, ⟨n, m, hR⟩, hH⟩ := h
  refine ⟨⟨h', ⟨n, m, hR.of (fun j => k 136 j (by decide) (by omega))⟩, fun e he => ?_⟩, k 135 7 (by decide) (by omega)⟩
  rw [k 135 4 (by decide) (by omega)] at he
  obtain ⟨n, m, hr⟩ := hH e he
  exact ⟨n, m, hr.of (fun j => k 139 _ (by decide) (by omega))⟩
theorem load_l : ∀ (fuel : Nat) (x : Int32) (M : Mem), 0 ≤ x.toInt ∧ x.toInt ≤ 1 → PI M → MI M → (600 - nx M) + x.toInt < fuel → Sf (mX7_load_l68 135 fuel x M) (LPq M) := by
  intro fuel
  induction fuel with
  | zero => intro x M hx h _ hf; have := nx_b h.1; exfalso; omega
  | succ fuel IH =>
    intro x M hx h hM hf
    show Sf (mX7_load_b68 135 (mX7_load_l68 135 fuel) x M) _
    unfold mX7_load_b68 mX7_load_b97 mX7_load_b98
    refine Sf.i (fun _ => load_end h hM) (fun c => Sf.i (fun _ => load_end h hM) (fun _ => Sf.m (sX7_statement h) (fun M39 r38 p => ?_)))
    have c := i_ne c
    rw [show ((0 : Int32)).toInt = 0 from rfl] at c
    have h39 : PI M39 := p.1
    have k39 : KP M M39 := p.2.1
    have n39 : nx M ≤ nx M39 := p.2.2.2.1
    have m39 := hM.kp h39.1 k39
    refine Sf.i (fun _ => Sf.mono (IH 0 M39 (by decide) h39 m39.1 (by rw [show ((0 : Int32)).toInt = 0 from rfl]; omega)) (fun q hq => ⟨hq.1, hq.2.trans m39.2⟩)) (fun c38 => ?_)
    have st : nx M < nx M39 := p.2.2.2.2 c38
    refine Sf.m (sX7_closed h39) (fun M43 r42 p43 => ?_)
    have h43 : PI M43 := p43.1
    have n43 : nx M39 ≤ nx M43 := p43.2.2.2
    have m43 := m39.1.kp h43.1 p43.2.1
    refine Sf.i (fun _ => Sf.mono (IH 0 M43 (by decide) h43 m43.1 (by rw [show ((0 : Int32)).toInt = 0 from rfl]; omega)) (fun q hq => ⟨hq.1, hq.2.trans (m43.2.trans m39.2)⟩)) (fun _ => Sf.mono (IH 1 M43 (by decide) h43 m43.1 (by rw [show ((1 : Int32)).toInt = 1 from rfl]; omega)) (fun q hq => ⟨hq.1, hq.2.trans (m43.2.trans m39.2)⟩))
theorem MI.set {j : Nat} {v : Int32} (h : MI M) (hj : j ≠ 4) (h' : OKm gS (wr M 135 j v)) : MI (wr M 135 j v) := by
  obtain ⟨_, ⟨n, m, hR⟩, hH⟩ := h
  refine ⟨h', ⟨n, m, hR.of (fun j => rd_wk (by decide))⟩, fun e he => ?_⟩
  rw [rd_wj (fun q => hj q.symm)] at he
  obtain ⟨n, m, hr⟩ := hH e he
  exact ⟨n, m, hr.of (fun j => rd_wk (by decide))⟩
theorem sX7_load (h : MI M) : Sf (mX7_load 135 x1 M) (fun q => MI q.1 ∧ ((rd q.1 135 7 = rd M 135 7 ∧ ¬ (0 ≤ x1.toInt ∧ x1.toInt ≤ (rd M 135 7).toInt)) ∨ ((rd q.1 135 7).toInt = 0 ∧ 0 ≤ x1.toInt ∧ x1.toInt ≤ (rd M 135 7).toInt))) := by
  unfold mX7_load mX7_between
  have b7 : (0 : Int) ≤ (rd M 135 7).toInt ∧ (rd M 135 7).toInt ≤ 600 := h.1.std 135 7
  have no : ¬ (0 ≤ x1.toInt ∧ x1.toInt ≤ (rd M 135 7).toInt) → Sf (mX7_load_b20 135 x1 (1 : Int32) M) (fun q => MI q.1 ∧ ((rd q.1 135 7 = rd M 135 7 ∧ ¬ (0 ≤ x1.toInt ∧ x1.toInt ≤ (rd M 135 7).toInt)) ∨ ((rd q.1 135 7).toInt = 0 ∧ 0 ≤ x1.toInt ∧ x1.toInt ≤ (rd M 135 7).toInt))) := by
    intro hn
    unfold mX7_load_b20
    refine Sf.b (fun M5 e5 => Sf.i (fun c => ?_) (fun _ => Sf.ok ?_))
    · rw [e5, rd_we] at c
      exact absurd c (by decide)
    · subst e5
      exact ⟨h.th.1, Or.inl ⟨h.th.2, hn⟩⟩
  have t1 : (x1.toInt64).toInt = x1.toInt := Int32.toInt_toInt64 _
  have t2 : ((rd M 135 7).toInt64).toInt = (rd M 135 7).toInt := Int32.toInt_toInt64 _
  have t0 : (0 : Int64).toInt = 0 := by decide
  have yes : 0 ≤ x1.toInt ∧ x1.toInt ≤ (rd M 135 7).toInt → Sf (mX7_load_b20 135 x1 (0 : Int32) M) (fun q => MI q.1 ∧ ((rd q.1 135 7 = rd M 135 7 ∧ ¬ (0 ≤ x1.toInt ∧ x1.toInt ≤ (rd M 135 7).toInt)) ∨ ((rd q.1 135 7).toInt = 0 ∧ 0 ≤ x1.toInt ∧ x1.toInt ≤ (rd M 135 7).toInt))) := by
    intro hy
    unfold mX7_load_b20
    refine Sf.b (fun M5 e5 => Sf.i (fun _ => ?_) (fun c => ?_))
    · have h5 : MI M5 := by rw [e5]; exact h.th.1
      refine Sf.b (fun M8 e8 => Sf.b (fun M10 e10 => Sf.b (fun M12 e12 => Sf.b (fun M14 e14 => Sf.b (fun M16 e16 => ?_)))))
      have h8 : MI M8 := by rw [e8]; exact h5.set (by decide) (h5.1.put (b := (0, 600)) rfl ⟨hy.1, by show _ ≤ (600 : Int); omega⟩)
      have h10 : MI M10 := by rw [e10]; exact h8.set (by decide) (h8.1.put (b := (0, 600)) rfl (by decide))
      have h12 : MI M12 := by rw [e12]; exact h10.set (by decide) (h10.1.put (b := (0, 600)) rfl (by decide))
      have h14 : MI M14 := by rw [e14]; exact h12.set (by decide) (h12.1.put (b := bT) rfl (i_rng _))
      have h16 : MI M16 := by rw [e16]; exact h14.set (by decide) (h14.1.put (b := bT) rfl (i_rng _))
      have z16 : rd M16 135 7 = 0 := by rw [e16, rd_wj (by decide), e14, rd_wj (by decide), e12, rd_wj (by decide), e10, rd_we]
      refine Sf.m (sX7_reset h16.1) (fun M20 _ p20 => ?_)
      have h20 : PI M20 := p20.1
      have m20 := h16.kp h20.1 p20.2
      refine Sf.m (sX7_advance h20.1) (fun M23 r22 p23 => ?_)
      have h23 := h20.ka p23.1.1 p23.1.2.1
      have m23 := m20.1.kp h23.1 (KA.kp p23.1.2.1)
      have b23 : 0 ≤ nx M23 ∧ nx M23 ≤ 600 := nx_b h23.1
      refine Sf.mono (load_l 5000 1 M23 (by decide) h23 m23.1 (by rw [show ((1 : Int32)).toInt = 1 from rfl]; omega)) (fun q hq => ⟨hq.1, Or.inr ⟨?_, hy⟩⟩)
      rw [hq.2, m23.2, m20.2, z16]; rfl
    · rw [e5, rd_we] at c
      exact absurd (by decide) c
  by_cases c1 : x1.toInt < 0
  · refine Sf.c (Q := fun r => r = 0) ⟨0, ?_, rfl⟩ (fun r er => ?_)
    · unfold ite2
      rw [if_pos (b_cmp.1.mpr (by omega))]
    · subst er
      exact Sf.i (fun _ => no (by omega)) (fun q => absurd rfl q)
  · by_cases c2 : (rd M 135 7).toInt < x1.toInt
    · refine Sf.c (Q := fun r => r = 0) ⟨0, ?_, rfl⟩ (fun r er => ?_)
      · unfold ite2
        rw [if_neg (fun q => by have := b_cmp.1.mp q; omega), if_pos (b_cmp.2.mpr (by omega))]
      · subst er
        exact Sf.i (fun _ => no (by omega)) (fun q => absurd rfl q)
    · refine Sf.c (Q := fun r => r = 1) ⟨1, ?_, rfl⟩ (fun r er => ?_)
      · unfold ite2
        rw [if_neg (fun q => by have := b_cmp.1.mp q; omega), if_neg (fun q => by have := b_cmp.2.mp q; omega)]
      · subst er
        exact Sf.i (fun q => absurd q (by decide)) (fun _ => yes (by omega))
theorem ref_append_l : ∀ (fuel : Nat) (x2 : Int32) (M : Mem) (k : Nat), MI M → x2.toInt = 8 * (k : Int) - 8 ∧ k ≤ 4 → (rd M 135 7).toInt + k ≤ 600 → k < fuel → Sf (mX7_append_l3 135 fuel x1 x2 M) (fun q => MI q.1 ∧ (rd q.1 135 7).toInt = (rd M 135 7).toInt + k) := by
  intro fuel
  induction fuel with
  | zero => intro x2 M k _ _ _ h; exfalso; omega
  | succ fuel IH =>
    intro x2 M k h h2 hb hf
    show Sf (mX7_append_b3 135 (mX7_append_l3 135 fuel) x1 x2 M) _
    unfold mX7_append_b3
    have b : (0 : Int) ≤ (rd M 135 7).toInt ∧ (rd M 135 7).toInt ≤ 600 := h.1.std 135 7
    refine Sf.i (fun c => Sf.ok ⟨h, ?_⟩) (fun c => ?_)
    · have c := i_lt.mp c
      rw [show ((0 : Int32)).toInt = 0 from rfl] at c
      show (rd M 135 7).toInt = _
      omega
    · have c := i_nlt c
      rw [show ((0 : Int32)).toInt = 0 from rfl] at c
      refine Sf.k (ok_in (by omega) (by omega)) (Sf.b (fun M4 e4 => Sf.b (fun M5 e5 => Sf.b (fun y ey => ?_))))
      have o4 : OKm gS M4 := by rw [e4]; exact h.1.put (b := bT) rfl (i_rng _)
      have r4 : ∀ k j, k ≠ 140 → rd M4 k j = rd M k j := fun k j hk => by rw [e4]; exact rd_wk hk
      have n1 : ((1 : Int32)).toInt = 1 := rfl
      have t5 : (rd M4 135 7 + 1).toInt = (rd M 135 7).toInt + 1 := by rw [r4 135 7 (by decide), i_add (by omega) (by omega), n1]
      have h4 : MI M4 := by
        obtain ⟨_, ⟨n, m, hR⟩, hH⟩ := h
        refine ⟨o4, ⟨n, m, hR.of (fun j => r4 136 j (by decide))⟩, fun e he => ?_⟩
        rw [r4 135 4 (by decide)] at he
        obtain ⟨n, m, hr⟩ := hH e he
        exact ⟨n, m, hr.of (fun j => r4 139 _ (by decide))⟩
      have h5 : MI M5 := by rw [e5]; exact h4.set (by decide) (h4.1.put (b := (0, 600)) rfl (by rw [t5]; exact ⟨by show (0 : Int) ≤ _; omega, by show _ ≤ (600 : Int); omega⟩))
      have c5 : (rd M5 135 7).toInt = (rd M 135 7).toInt + 1 := by rw [e5, rd_we, t5]
      have ty : y.toInt = x2.toInt - 8 := by rw [ey, i_add (by rw [show ((-8 : Int32)).toInt = -8 from rfl]; omega) (by rw [show ((-8 : Int32)).toInt = -8 from rfl]; omega)]; rfl
      refine Sf.mono (IH y M5 (k - 1) h5 ⟨by omega, by omega⟩ (by omega) (by omega)) (fun q p => ⟨p.1, ?_⟩)
      have := p.2
      omega
theorem ref_append (h : MI M) (hb : (rd M 135 7).toInt + 4 ≤ 600) : Sf (mX7_append 135 x1 M) (fun q => MI q.1 ∧ (rd q.1 135 7).toInt = (rd M 135 7).toInt + 4) := by
  unfold mX7_append
  exact ref_append_l 5000 24 M 4 h (by decide) hb (by decide)
theorem sX7_feed (h : MI M) : Sf (mX7_feed 135 x1 x2 x3 x4 x5 M) (fun q => MI q.1 ∧ ((600 < (rd M 135 7).toInt + 20 ∧ q.2.toInt = -2 ∧ (rd q.1 135 7).toInt = (rd M 135 7).toInt) ∨ ((rd M 135 7).toInt + 20 ≤ 600 ∧ q.2.toInt = (rd M 135 7).toInt + 20 ∧ (rd q.1 135 7).toInt = (rd M 135 7).toInt + 20))) := by
  unfold mX7_feed
  refine Sf.b (fun M1 e1 => ?_)
  have h1 : MI M1 := by rw [e1]; exact h.th.1
  have k1 : rd M1 135 7 = rd M 135 7 := by rw [e1]; exact h.th.2
  rw [← k1]
  have b : (0 : Int) ≤ (rd M1 135 7).toInt ∧ (rd M1 135 7).toInt ≤ 600 := h1.1.std 135 7
  have n20 : ((20 : Int32)).toInt = 20 := rfl
  have n600 : ((600 : Int32)).toInt = 600 := rfl
  have e := i_add (a := rd M1 135 7) (b := 20) (by omega) (by omega)
  refine Sf.i (fun c => ?_) (fun c => Sf.ok ⟨h1, Or.inl ⟨?_, rfl, rfl⟩⟩)
  · have c := i_le.mp c
    refine Sf.m (ref_append h1 (by omega)) (fun M4 _ p4 => ?_)
    have c4 : (rd M4 135 7).toInt = (rd M1 135 7).toInt + 4 := p4.2
    refine Sf.m (ref_append p4.1 (by show (rd M4 135 7).toInt + 4 ≤ 600; omega)) (fun M7 _ p7 => ?_)
    have c7 : (rd M7 135 7).toInt = (rd M4 135 7).toInt + 4 := p7.2
    refine Sf.m (ref_append p7.1 (by show (rd M7 135 7).toInt + 4 ≤ 600; omega)) (fun M10 _ p10 => ?_)
    have c10 : (rd M10 135 7).toInt = (rd M7 135 7).toInt + 4 := p10.2
    refine Sf.m (ref_append p10.1 (by show (rd M10 135 7).toInt + 4 ≤ 600; omega)) (fun M13 _ p13 => ?_)
    have c13 : (rd M13 135 7).toInt = (rd M10 135 7).toInt + 4 := p13.2
    refine Sf.m (ref_append p13.1 (by show (rd M13 135 7).toInt + 4 ≤ 600; omega)) (fun M16 _ p16 => ?_)
    have c16 : (rd M16 135 7).toInt = (rd M13 135 7).toInt + 4 := p16.2
    exact Sf.ok ⟨p16.1, Or.inr ⟨by omega, by show (rd M16 135 7).toInt = _; omega, by show (rd M16 135 7).toInt = _; omega⟩⟩
  · have c := i_nle c
    omega
end LK
end
