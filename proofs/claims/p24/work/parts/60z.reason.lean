/-! why a step is refused: alike -/
section RS
variable {M N M0 N0 : Mem} {k k1 b s : Nat}
def Fl (N : Mem) (x : Int32) (a c : Nat) : Prop := (x = 1 ∧ Crs N (rd N 136 1).toInt.toNat) ∨ (x = 0 ∧ ∀ q j : Nat, q + 2 ≤ j → (j : Int) < (rd N 136 1).toInt → (q < a ∨ (q = a ∧ j < c)) → ¬ Tch N q j)
theorem crsR_in {ih : Int32 → Int32 → Option Int32} {P : Int32 → Prop} {a : Nat} (h0 : 0 ≤ (rd N 136 1).toInt) (h9 : (rd N 136 1).toInt ≤ 9) (ha : a ≤ 9) (hk : ∀ x, Fl N x (a + 1) 0 → Pc (ih x (Int32.ofNat (a + 1))) P) : ∀ (n c : Nat) (x : Int32), c ≤ 11 → a + 2 ≤ c → Fl N x a c → Pc (mX7_isCrossed_l18 135 N ih n x (Int32.ofNat a) (Int32.ofNat c)) P := by
  intro n
  induction n with
  | zero => intro c x _ _ _; exact Pc.n
  | succ n IH =>
    intro c x hc hac hF
    show Pc (mX7_isCrossed_b18 135 N ih (mX7_isCrossed_l18 135 N ih n) x (Int32.ofNat a) (Int32.ofNat c)) _
    unfold mX7_isCrossed_b18 mX7_isCrossed_b96 mX7_isCrossed_b92 mX7_isCrossed_b97
    have ta : (Int32.ofNat a).toInt = (a : Int) := t_of (by omega)
    have tc : (Int32.ofNat c).toInt = (c : Int) := t_of (by omega)
    have ca := c_of (a := a) (by omega)
    have cc := c_of (a := c) (by omega)
    have en : Int32.ofNat a + (1 : Int32) = Int32.ofNat (a + 1) := (Int32.ofNat_add a 1).symm
    have em : Int32.ofNat c + (1 : Int32) = Int32.ofNat (c + 1) := (Int32.ofNat_add c 1).symm
    rw [ca, cc]
    refine Pc.k (fun _ => Pc.i (fun q => Pc.b (fun v ev => ?_)) (fun q => ?_))
    · have q : (rd N 136 1).toInt ≤ (Int32.ofNat c).toInt := i_le.mp q
      rw [tc] at q
      rw [ev, en]
      refine hk x ?_
      rcases hF with hF | ⟨e, hF⟩
      · exact Or.inl hF
      · refine Or.inr ⟨e, fun q' j a1 a2 a3 => hF q' j a1 a2 ?_⟩
        omega
    · have q : (Int32.ofNat c).toInt < (rd N 136 1).toInt := i_nle q
      rw [tc] at q
      have yes : Tch N a c → Pc (bnd (Int32.ofNat c + (1 : Int32)) (fun x3_98 => mX7_isCrossed_l18 135 N ih n 1 (Int32.ofNat a) x3_98)) P := by
        intro hT
        refine Pc.b (fun v ev => ?_)
        rw [ev, em]
        exact IH (c + 1) 1 (by omega) (by omega) (Or.inl ⟨rfl, a, c, hac, by omega, hT⟩)
      have no : x = 0 → ¬ Tch N a c → Pc (bnd (Int32.ofNat c + (1 : Int32)) (fun x3_98 => mX7_isCrossed_l18 135 N ih n 0 (Int32.ofNat a) x3_98)) P := by
        intro hx hT
        refine Pc.b (fun v ev => ?_)
        rw [ev, em]
        refine IH (c + 1) 0 (by omega) (by omega) ?_
        rcases hF with ⟨e, _⟩ | ⟨_, hF⟩
        · rw [hx] at e; exact absurd e (by decide)
        · refine Or.inr ⟨rfl, fun q' j a1 a2 a3 => ?_⟩
          by_cases e : q' = a ∧ j = c
          · rw [e.1, e.2]; exact hT
          · exact hF q' j a1 a2 (by omega)
      refine Pc.i (fun x0 => Pc.k (fun _ => Pc.k (fun _ => Pc.k (fun _ => Pc.k (fun _ => Pc.c pc_overlap (fun r p => ?_)))))) (fun x0 => ?_)
      · rcases p with ⟨rfl, pe⟩ | ⟨rfl, pe⟩
        · refine Pc.i (fun z => absurd z (by decide)) (fun _ => Pc.k (fun _ => Pc.k (fun _ => Pc.k (fun _ => Pc.k (fun _ => Pc.c pc_overlap (fun r2 p2 => ?_))))))
          rcases p2 with ⟨rfl, pf⟩ | ⟨rfl, pf⟩
          · exact Pc.i (fun z => absurd z (by decide)) (fun _ => yes ⟨pe.1, pe.2, pf.1, pf.2⟩)
          · exact Pc.i (fun _ => no x0 (fun z => pf ⟨z.2.2.1, z.2.2.2⟩)) (fun z => absurd rfl z)
        · exact Pc.i (fun _ => no x0 (fun z => pe ⟨z.1, z.2.1⟩)) (fun z => absurd rfl z)
      · rcases hF with ⟨e, hC⟩ | ⟨e, _⟩
        · refine Pc.b (fun v ev => ?_)
          rw [ev, em]
          exact IH (c + 1) 1 (by omega) (by omega) (Or.inl ⟨rfl, hC⟩)
        · exact absurd e x0
theorem crsR_l (h0 : 0 ≤ (rd N 136 1).toInt) (h9 : (rd N 136 1).toInt ≤ 9) : ∀ (n a : Nat) (x : Int32), a ≤ 10 → Fl N x a 0 → Pc (mX7_isCrossed_l4 135 N n x (Int32.ofNat a)) (fun r => (r = 1 ∧ Crs N (rd N 136 1).toInt.toNat) ∨ (r = 0 ∧ ¬ Crs N (rd N 136 1).toInt.toNat)) := by
  intro n
  induction n with
  | zero => intro a x _ _; exact Pc.n
  | succ n IH =>
    intro a x ha hF
    show Pc (mX7_isCrossed_b4 135 N (mX7_isCrossed_l4 135 N n) x (Int32.ofNat a)) _
    unfold mX7_isCrossed_b4
    have ta : (Int32.ofNat a).toInt = (a : Int) := t_of (by omega)
    have en : Int32.ofNat a + (2 : Int32) = Int32.ofNat (a + 2) := (Int32.ofNat_add a 2).symm
    refine Pc.k (fun _ => Pc.i (fun q => Pc.k (fun _ => Pc.ok ?_)) (fun q => Pc.b (fun v ev => ?_)))
    · have q : (rd N 136 1).toInt ≤ (Int32.ofNat a).toInt := i_le.mp q
      rw [ta] at q
      rcases hF with hF | ⟨e, hF⟩
      · exact Or.inl hF
      · refine Or.inr ⟨e, ?_⟩
        rintro ⟨q', j, a1, a2, a3⟩
        exact hF q' j a1 (by omega) (by omega) a3
    · have q : (Int32.ofNat a).toInt < (rd N 136 1).toInt := i_nle q
      rw [ta] at q
      rw [ev, en]
      refine crsR_in h0 h9 (by omega) (fun x' hx' => IH (a + 1) x' (by omega) hx') 5000 (a + 2) x (by omega) (by omega) ?_
      rcases hF with hF | ⟨e, hF⟩
      · exact Or.inl hF
      · refine Or.inr ⟨e, fun q' j a1 a2 a3 => hF q' j a1 a2 ?_⟩
        omega
theorem pc_crsR (h0 : 0 ≤ (rd N 136 1).toInt) (h9 : (rd N 136 1).toInt ≤ 9) : Pc (mX7_isCrossed 135 N) (fun r => (r = 1 ∧ Crs N (rd N 136 1).toInt.toNat) ∨ (r = 0 ∧ ¬ Crs N (rd N 136 1).toInt.toNat)) := by
  unfold mX7_isCrossed
  exact crsR_l h0 h9 5000 0 0 (by omega) (Or.inr ⟨rfl, fun q j _ _ z => by omega⟩)
/-! the bits of the clamped legs -/
theorem clm_bits0 : ∀ b, b < 8 → ∃ c : Nat, c < 512 ∧ (((2 : Int32) <<< (Int32.ofNat b &&& 31)) - ((1 : Int32) <<< ((0 : Int32) &&& 31))) = Int32.ofNat c ∧ ∀ j, j < 9 → (c.testBit j = decide (j ≤ b)) := by
  intro b hb
  have key : ∀ b, b < 8 → ((2 ^ (b + 1) - 1) < 512 ∧ (((2 : Int32) <<< (Int32.ofNat b &&& 31)) - ((1 : Int32) <<< ((0 : Int32) &&& 31))) = Int32.ofNat (2 ^ (b + 1) - 1) ∧ ∀ j, j < 9 → ((2 ^ (b + 1) - 1).testBit j = decide (j ≤ b))) := by decide +kernel
  exact ⟨_, key b hb⟩
theorem clm_bits1 : ∀ b, b < 8 → ∀ L, L < 10 → b + 1 < L → ∃ c : Nat, c < 512 ∧ (((2 : Int32) <<< (Int32.ofNat (L - 1) &&& 31)) - ((1 : Int32) <<< (Int32.ofNat (b + 1) &&& 31))) = Int32.ofNat c ∧ ∀ j, j < L → (c.testBit j = decide (b < j)) := by
  intro b hb L hL hbL
  have key : ∀ b, b < 8 → ∀ L, L < 10 → b + 1 < L → ((2 ^ L - 2 ^ (b + 1)) < 512 ∧ (((2 : Int32) <<< (Int32.ofNat (L - 1) &&& 31)) - ((1 : Int32) <<< (Int32.ofNat (b + 1) &&& 31))) = Int32.ofNat (2 ^ L - 2 ^ (b + 1)) ∧ ∀ j, j < L → ((2 ^ L - 2 ^ (b + 1)).testBit j = decide (b < j))) := by decide +kernel
  exact ⟨_, key b hb L hL hbL⟩
theorem o_and9 {a m : Nat} (ha : a < 512) (hm : m < 512) : (Int32.ofNat a &&& Int32.ofNat m) = Int32.ofNat (a &&& m) := by
  rw [← Int32.toBitVec_inj]
  apply BitVec.eq_of_toNat_eq
  have e1 : (Int32.ofNat a).toBitVec.toNat = a := by
    have h1 := i_nn2 (x := Int32.ofNat a) (by rw [t_of (by omega)]; omega)
    rw [t_of (by omega)] at h1; omega
  have e2 : (Int32.ofNat m).toBitVec.toNat = m := by
    have h1 := i_nn2 (x := Int32.ofNat m) (by rw [t_of (by omega)]; omega)
    rw [t_of (by omega)] at h1; omega
  have h3 : a &&& m ≤ a := Nat.and_le_left
  have e3 : (Int32.ofNat (a &&& m)).toBitVec.toNat = a &&& m := by
    have h1 := i_nn2 (x := Int32.ofNat (a &&& m)) (by rw [t_of (by omega)]; omega)
    rw [t_of (by omega)] at h1; omega
  rw [e3]
  show ((Int32.ofNat a).toBitVec &&& (Int32.ofNat m).toBitVec).toNat = _
  rw [BitVec.toNat_and, e1, e2]
theorem of_0 {m : Nat} (hm : m < 512) : Int32.ofNat m = 0 ↔ m = 0 := by
  constructor
  · intro h
    have := congrArg Int32.toInt h
    rw [t_of (by omega), show ((0 : Int32)).toInt = 0 from rfl] at this
    omega
  · intro h; rw [h]; rfl
theorem nz_bits {m L : Nat} (hm : m < 2 ^ L) : ¬ m = 0 ↔ ∃ i, i < L ∧ m.testBit i = true := by
  constructor
  · intro h
    apply Decidable.byContradiction
    intro q
    apply h
    apply Nat.eq_of_testBit_eq
    intro i
    rw [Nat.zero_testBit]
    by_cases hi : i < L
    · cases e : m.testBit i with
      | false => rfl
      | true => exact absurd ⟨i, hi, e⟩ q
    · exact Nat.testBit_lt_two_pow (Nat.lt_of_lt_of_le hm (Nat.pow_le_pow_right (by decide) (by omega)))
  · rintro ⟨i, _, h⟩ e
    rw [e, Nat.zero_testBit] at h
    exact absurd h (by decide)
end RS
