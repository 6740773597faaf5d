/-! part 60z.reason -/
section
/-! why a step is refused: alike -/
section RS
variable {M N M0 N0 : Mem} {k k1 b s : Nat}
def Fl (N : Mem) (x : Int32) (a c : Nat) : Prop := (x = 1 ∧ Crs N (rd N 136 1).toInt.toNat) ∨ (x = 0 ∧ ∀ q j : Nat, q + 2 ≤ j → (j : Int) < (rd N 136 1).toInt → (q < a ∨ (q = a ∧ j < c)) → ¬ Tch N q j)
theorem crsR_in {ih : Int32 → Int32 → Option Int32} {P : Int32 → Prop} {a : Nat} (h0 : 0 ≤ (rd N 136 1).toInt) (h9 : (rd N 136 1).toInt ≤ 9) (ha : a ≤ 9) (hk : ∀ x, Fl N x (a + 1) 0 → Pc (ih x (Int32.ofNat (a + 1))) P) : ∀ (n c : Nat) (x : Int32), c ≤ 11 → a + 2 ≤ c → Fl N x a c → Pc (mX7_isCrossed_l18 135 N ih n x (Int32.ofNat a) (Int32.ofNat c)) P := by
  intro n
  induction n with
  | zero => intro c x _ _ _; exact Pc.n
  | succ n IH =>
    intro c x hc hac hF
    show Pc (mX7_isCrossed_b18 135 N ih (mX7_isCrossed_l18 135 N ih n) x (Int32.ofNat a) (Int32.ofNat c)) _
    unfold mX7_isCrossed_b18 mX7_isCrossed_b96 mX7_isCrossed_b92 mX7_isCrossed_b97
    have ta : (Int32.ofNat a).toInt = (a : Int) := t_of (by omega)
    have tc : (Int32.ofNat c).toInt = (c : Int) := t_of (by omega)
    have ca := c_of (a := a) (by omega)
    have cc := c_of (a := c) (by omega)
    have en : Int32.ofNat a + (1 : Int32) = Int32.ofNat (a + 1) := (Int32.ofNat_add a 1).symm
    have em : Int32.ofNat c + (1 : Int32) = Int32.ofNat (c + 1) := (Int32.ofNat_add c 1).symm
    rw [ca, cc]
    refine Pc.k (fun _ => Pc.i (fun q => Pc.b (fun v ev => ?_)) (fun q => ?_))
    · have q : (rd N 136 1).toInt ≤ (Int32.ofNat c).toInt := i_le.mp q
      rw [tc] at q
      rw [ev, en]
      refine hk x ?_
      rcases hF with hF | ⟨e, hF⟩
      · exact Or.inl hF
      · refine Or.inr ⟨e, fun q' j a1 a2 a3 => hF q' j a1 a2 ?_⟩
        omega
    · have q : (Int32.ofNat c).toInt < (rd N 136 1).toInt := i_nle q
      rw [tc] at q
      have yes : Tch N a c → Pc (bnd (Int32.ofNat c + (1 : Int32)) (fun x3_98 => mX7_isCrossed_l18 135 N ih n 1 (Int32.ofNat a) x3_98)) P := by
        intro hT
        refine Pc.b (fun v ev => ?_)
        rw [ev, em]
        exact IH (c + 1) 1 (by omega) (by omega) (Or.inl ⟨rfl, a, c, hac, by omega, hT⟩)
      have no : x = 0 → ¬ Tch N a c → Pc (bnd (Int32.ofNat c + (1 : Int32)) (fun x3_98 => mX7_isCrossed_l18 135 N ih n 0 (Int32.ofNat a) x3_98)) P := by
        intro hx hT
        refine Pc.b (fun v ev => ?_)
        rw [ev, em]
        refine IH (c + 1) 0 (by omega) (by omega) ?_
        rcases hF with ⟨e, _⟩ | ⟨_, hF⟩
        · rw [hx] at e; exact absurd e (by decide)
        · refine Or.inr ⟨rfl, fun q' j a1 a2 a3 => ?_⟩
          by_cases e : q' = a ∧ j = c
          · rw [e.1, e.2]; exact hT
          · exact hF q' j a1 a2 (by omega)
      refine Pc.i (fun x0 => Pc.k (fun _ => Pc.k (fun _ => Pc.k (fun _ => Pc.k (fun _ => Pc.c pc_overlap (fun r p => ?_)))))) (fun x0 => ?_)
      · rcases p with ⟨rfl, pe⟩ | ⟨rfl, pe⟩
        · refine Pc.i (fun z => absurd z (by decide)) (fun _ => Pc.k (fun _ => Pc.k (fun _ => Pc.k (fun _ => Pc.k (fun _ => Pc.c pc_overlap (fun r2 p2 => ?_))))))
          rcases p2 with ⟨rfl, pf⟩ | ⟨rfl, pf⟩
          · exact Pc.i (fun z => absurd z (by decide)) (fun _ => yes ⟨pe.1, pe.2, pf.1, pf.2⟩)
          · exact Pc.i (fun _ => no x0 (fun z => pf ⟨z.2.2.1, z.2.2.2⟩)) (fun z => absurd rfl z)
        · exact Pc.i (fun _ => no x0 (fun z => pe ⟨z.1, z.2.1⟩)) (fun z => absurd rfl z)
      · rcases hF with ⟨e, hC⟩ | ⟨e, _⟩
        · refine Pc.b (fun v ev => ?_)
          rw [ev, em]
          exact IH (c + 1) 1 (by omega) (by omega) (Or.inl ⟨rfl, hC⟩)
        · exact absurd e x0
theorem crsR_l (h0 : 0 ≤ (rd N 136 1).toInt) (h9 : (rd N 136 1).toInt ≤ 9) : ∀ (n a : Nat) (x : Int32), a ≤ 10 → Fl N x a 0 → Pc (mX7_isCrossed_l4 135 N n x (Int32.ofNat a)) (fun r => (r = 1 ∧ Crs N (rd N 136 1).toInt.toNat) ∨ (r = 0 ∧ ¬ Crs N (rd N 136 1).toInt.toNat)) := by
  intro n
  induction n with
  | zero => intro a x _ _; exact Pc.n
  | succ n IH =>
    intro a x ha hF
    show Pc (mX7_isCrossed_b4 135 N (mX7_isCrossed_l4 135 N n) x (Int32.ofNat a)) _
    unfold mX7_isCrossed_b4
    have ta : (Int32.ofNat a).toInt = (a : Int) := t_of (by omega)
    have en : Int32.ofNat a + (2 : Int32) = Int32.ofNat (a + 2) := (Int32.ofNat_add a 2).symm
    refine Pc.k (fun _ => Pc.i (fun q => Pc.k (fun _ => Pc.ok ?_)) (fun q => Pc.b (fun v ev => ?_)))
    · have q : (rd N 136 1).toInt ≤ (Int32.ofNat a).toInt := i_le.mp q
      rw [ta] at q
      rcases hF with hF | ⟨e, hF⟩
      · exact Or.inl hF
      · refine Or.inr ⟨e, ?_⟩
        rintro ⟨q', j, a1, a2, a3⟩
        exact hF q' j a1 (by omega) (by omega) a3
    · have q : (Int32.ofNat a).toInt < (rd N 136 1).toInt := i_nle q
      rw [ta] at q
      rw [ev, en]
      refine crsR_in h0 h9 (by omega) (fun x' hx' => IH (a + 1) x' (by omega) hx') 5000 (a + 2) x (by omega) (by omega) ?_
      rcases hF with hF | ⟨e, hF⟩
      · exact Or.inl hF
      · refine Or.inr ⟨e, fun q' j a1 a2 a3 => hF q' j a1 a2 ?_⟩
        omega
theorem pc_crsR (h0 : 0 ≤ (rd N 136 1).toInt) (h9 : (rd N 136 1).toInt ≤ 9) : Pc (mX7_isCrossed 135 N) (fun r => (r = 1 ∧ Crs N (rd N 136 1).toInt.toNat) ∨ (r = 0 ∧ ¬ Crs N (rd N 136 1).toInt.toNat)) := by
  unfold mX7_isCrossed
  exact crsR_l h0 h9 5000 0 0 (by omega) (Or.inr ⟨rfl, fun q j _ _ z => by omega⟩)
/-! the bits of the clamped legs -/
theorem clm_bits0 : ∀ b, b < 8 → ∃ c : Nat, c < 512 ∧ (((2 : Int32) <<< (Int32.ofNat b &&& 31)) - ((1 : Int32) <<< ((0 : Int32) &&& 31))) = Int32.ofNat c ∧ ∀ j, j < 9 → (c.testBit j = decide (j ≤ b)) := by
  intro b hb
  have key : ∀ b, b < 8 → ((2 ^ (b + 1) - 1) < 512 ∧ (((2 : Int32) <<< (Int32.ofNat b &&& 31)) - ((1 : Int32) <<< ((0 : Int32) &&& 31))) = Int32.ofNat (2 ^ (b + 1) - 1) ∧ ∀ j, j < 9 → ((2 ^ (b + 1) - 1).testBit j = decide (j ≤ b))) := by decide +kernel
  exact ⟨_, key b hb⟩
theorem clm_bits1 : ∀ b, b < 8 → ∀ L, L < 10 → b + 1 < L → ∃ c : Nat, c < 512 ∧ (((2 : Int32) <<< (Int32.ofNat (L - 1) &&& 31)) - ((1 : Int32) <<< (Int32.ofNat (b + 1) &&& 31))) = Int32.ofNat c ∧ ∀ j, j < L → (c.testBit j = decide (b < j)) := by
  intro b hb L hL hbL
  have key : ∀ b, b < 8 → ∀ L, L < 10 → b + 1 < L → ((2 ^ L - 2 ^ (b + 1)) < 512 ∧ (((2 : Int32) <<< (Int32.ofNat (L - 1) &&& 31)) - ((1 : Int32) <<< (Int32.ofNat (b + 1) &&& 31))) = Int32.ofNat (2 ^ L - 2 ^ (b + 1)) ∧ ∀ j, j < L → ((2 ^ L - 2 ^ (b + 1)).testBit j = decide (b < j))) := by decide +kernel
  exact ⟨_, key b hb L hL hbL⟩
theorem o_and9 {a m : Nat} (ha : a < 512) (hm : m < 512) : (Int32.ofNat a &&& Int32.ofNat m) = Int32.ofNat (a &&& m) := by
  rw [← Int32.toBitVec_inj]
  apply BitVec.eq_of_toNat_eq
  have e1 : (Int32.ofNat a).toBitVec.toNat = a := by
    have h1 := i_nn2 (x := Int32.ofNat a) (by rw [t_of (by omega)]; omega)
    rw [t_of (by omega)] at h1; omega
  have e2 : (Int32.ofNat m).toBitVec.toNat = m := by
    have h1 := i_nn2 (x := Int32.ofNat m) (by rw [t_of (by omega)]; omega)
    rw [t_of (by omega)] at h1; omega
  have h3 : a &&& m ≤ a := Nat.and_le_left
  have e3 : (Int32.ofNat (a &&& m)).toBitVec.toNat = a &&& m := by
    have h1 := i_nn2 (x := Int32.ofNat (a &&& m)) (by rw [t_of (by omega)]; omega)
    rw [t_of (by omega)] at h1; omega
  rw [e3]
  show ((Int32.ofNat a).toBitVec &&& (Int32.ofNat m).toBitVec).toNat = _
  rw [BitVec.toNat_and, e1, e2]
theorem of_0 {m : Nat} (hm : m < 512) : Int32.ofNat m = 0 ↔ m = 0 := by
  constructor
  · intro h
    have := congrArg Int32.toInt h
    rw [t_of (by omega), show ((0 : Int32)).toInt = 0 from rfl] at this
    omega
  · intro h; rw [h]; rfl
theorem nz_bits {m L : Nat} (hm : m < 2 ^ L) : ¬ m = 0 ↔ ∃ i, i < L ∧ m.testBit i = true := by
  constructor
  · intro h
    apply Decidable.byContradiction
    intro q
    apply h
    apply Nat.eq_of_testBit_eq
    intro i
    rw [Nat.zero_testBit]
    by_cases hi : i < L
    · cases e : m.testBit i with
      | false => rfl
      | true => exact absurd ⟨i, hi, e⟩ q
    · exact Nat.testBit_lt_two_pow (Nat.lt_of_lt_of_le hm (Nat.pow_le_pow_right (by decide) (by omega)))
  · rintro ⟨i, _, h⟩ e
    rw [e, Nat.zero_testBit] at h
    exact absurd h (by decide)
end RS
end
/-! part 60zx.why -/
section
/-! why a step is refused: the same reason -/
section WY
variable {M N M0 N0 : Mem} {k k1 b s a n : Nat}
def WyR (k b s : Nat) (M N : Mem) (p q : Mem × Int32) : Prop := p.2 = q.2 ∧ KS (SPs k) M p.1 ∧ KS SRl N q.1 ∧ (p.2 = 0 → SH k b s p.1 q.1)
theorem PR.sps {f : Nat → Int32} {M' : Mem} (h : PR k1 M f) (hd8 : k1 + 8 ≤ k) (hk : KS (SPs k) M M') : PR k1 M' f := h.ks hk (fun c j h1 h2 z => by unfold SPs at z; omega)
theorem PB.sps {f : Nat → Int32} {M' : Mem} (h : PB k1 M f) (hd8 : k1 + 8 ≤ k) (hk : KS (SPs k) M M') : PB k1 M' f := h.ks hk (fun c j h1 h2 z => by unfold SPs at z; omega)
theorem row_srl {N' : Mem} (hk : KS SRl N N') : row 136 N' = row 136 N := row_ks hk (fun j z => by unfold SRl at z; omega)
/-- behind the laying -/
theorem why_in (hd8 : k1 + 8 ≤ k) (hP : PB k1 M (row 136 N)) (l1 : (rd N 136 1).toInt = (n : Int) + 1) (n8 : n ≤ 8) (hb : b < n) (hs : s < 2) (h : SH k b s M N) :
    R2 (cap (mX2_reachToBack k M) (fun r13 => chk (okb (6 : Int32) 10) (ite2 (r13 < (rd M (k1 + 2) ((6 : Int32)).toNatClampNeg)) (some (M, (3 : Int32))) (chk (okb (7 : Int32) 10) (ite2 (r13 ≤ (rd M (k1 + 2) ((7 : Int32)).toNatClampNeg)) (cap (mX2_legsHitting k k1 M) (fun r20 => bnd ((((2 : Int32) <<< ((rd M k 8) &&& 31)) - ((1 : Int32) <<< ((rd M k 7) &&& 31)))) (fun x8_123 => ite2 ((r20 &&& x8_123) = 0) (ite2 (r20 = 0) (cap (mX2_crossesItself k M) (fun r26 => ite2 (r26 = 0) (some (M, (0 : Int32))) (some (M, (6 : Int32))))) (some (M, (5 : Int32)))) (some (M, (4 : Int32)))))) (some (M, (3 : Int32))))))))
      (cap (mX7_isGaugeLaid 135 (Int32.ofNat b) (Int32.ofNat s) N) (fun r13 => ite2 (r13 = 0) (some (N, (3 : Int32))) (cap (mX7_hittingLaid 135 (Int32.ofNat b) (Int32.ofNat s) (1 : Int32) (0 : Int32) N) (fun r17 => ite2 (r17 = 0) (cap (mX7_hittingLaid 135 (Int32.ofNat b) (Int32.ofNat s) (0 : Int32) (1 : Int32) N) (fun r21 => ite2 (r21 = 0) (cap (mX7_isCrossed 135 N) (fun r25 => ite2 (r25 = 0) (some (N, (0 : Int32))) (some (N, (6 : Int32))))) (some (N, (5 : Int32))))) (some (N, (4 : Int32)))))))
      (fun p q => p.2 = q.2 ∧ p.1 = M ∧ q.1 = N) := by
  have h9 : (rd N 136 1).toInt ≤ 9 := by omega
  have h0 : 0 ≤ (rd N 136 1).toInt := by omega
  have z6 : rd M (k1 + 2) ((6 : Int32)).toNatClampNeg = rd N 136 45 := hP.tl 6 (by decide)
  have z7 : rd M (k1 + 2) ((7 : Int32)).toNatClampNeg = rd N 136 46 := hP.tl 7 (by decide)
  rw [z6, z7]
  unfold mX7_isGaugeLaid
  simp only [cap_cap]
  refine R2.cc (gauge_R h (by omega) hs h9) (fun g g' eg => ?_)
  have eg : g = g' := eg
  subst eg
  refine R2.cr (pc_toolOf (i := 45) (by decide)) (fun t6 e6 => ?_)
  refine R2.cr (pc_toolOf (i := 46) (by decide)) (fun t7 e7 => ?_)
  rw [e6, e7]
  refine R2.cr (pc_btw (Int32.toInt_toInt64 _) (Int32.toInt_toInt64 _) (Int32.toInt_toInt64 _)) (fun r p => ?_)
  have three : r = 0 → R2 (some (M, (3 : Int32))) (cap (chk (isB r) (some r)) (fun r13 => ite2 (r13 = 0) (some (N, (3 : Int32))) (cap (mX7_hittingLaid 135 (Int32.ofNat b) (Int32.ofNat s) (1 : Int32) (0 : Int32) N) (fun r17 => ite2 (r17 = 0) (cap (mX7_hittingLaid 135 (Int32.ofNat b) (Int32.ofNat s) (0 : Int32) (1 : Int32) N) (fun r21 => ite2 (r21 = 0) (cap (mX7_isCrossed 135 N) (fun r25 => ite2 (r25 = 0) (some (N, (0 : Int32))) (some (N, (6 : Int32))))) (some (N, (5 : Int32))))) (some (N, (4 : Int32))))))) (fun p q : Mem × Int32 => p.2 = q.2 ∧ p.1 = M ∧ q.1 = N) := by
    intro e
    subst e
    refine R2.cr (Q := fun r => r = 0) (Pc.k (fun _ => Pc.ok rfl)) (fun r e => R2.ir (fun _ => R2.ok ⟨rfl, rfl, rfl⟩) (fun z => absurd e z))
  refine R2.kl (fun _ => R2.il (fun c => three ?_) (fun c => R2.kl (fun _ => R2.il (fun c2 => ?_) (fun c2 => three ?_))))
  · have c := i_lt.mp c
    rcases p with ⟨_, q, _⟩ | ⟨e, _⟩
    · exfalso; omega
    · exact e
  rotate_left
  · have c2 := i_nle c2
    rcases p with ⟨_, _, q⟩ | ⟨e, _⟩
    · exfalso; omega
    · exact e
  have c := i_nlt c
  have c2 := i_le.mp c2
  have e1 : r = 1 := by
    rcases p with ⟨e, _⟩ | ⟨_, q⟩
    · exact e
    · exact absurd ⟨c, c2⟩ q
  subst e1
  refine R2.cr (Q := fun r => r = 1) (Pc.k (fun _ => Pc.ok rfl)) (fun r e => R2.ir (fun z => absurd (e.symm.trans z) (by decide)) (fun _ => ?_))
  refine R2.cl (pc_hitC h h0 h9 hP.tl) (fun r20 p20 => R2.bl (fun x8 ex8 => R2.cr (pc_hitR (b := b) (s := s) (c := 1) (fr := 0) (by omega) hs h0 h9) (fun r17 p17 => ?_)))
  obtain ⟨m, em, hm, bm⟩ := p20
  obtain ⟨m1, em1, hm1, bm1⟩ := p17
  have L9 : (rd N 136 1).toInt.toNat ≤ 9 := by omega
  have p9 : 2 ^ (rd N 136 1).toInt.toNat ≤ 512 := Nat.pow_le_pow_right (n := 2) (by decide) L9
  have hcb : ∃ cb : Nat, cb < 512 ∧ x8 = Int32.ofNat cb ∧ ∀ j, j < (rd N 136 1).toInt.toNat → (cb.testBit j = true ↔ clm b s j) := by
    have s7 := h.2.2.1; have s8 := h.2.2.2
    have hs2 : s = 0 ∨ s = 1 := by omega
    rcases hs2 with rfl | rfl
    · rw [if_pos rfl] at s7 s8
      have d7 : rd M k 7 = 0 := i_eq.mpr s7
      have d8 : rd M k 8 = Int32.ofNat b := by rw [i_eq, s8, t_of (by omega)]
      obtain ⟨cb, q1, q2, q3⟩ := clm_bits0 b (by omega)
      refine ⟨cb, q1, by rw [ex8, d7, d8]; exact q2, fun j hj => ?_⟩
      rw [q3 j (by omega)]
      unfold clm
      rw [if_pos rfl]
      exact decide_eq_true_iff
    · rw [if_neg (by decide)] at s7 s8
      have d7 : rd M k 7 = Int32.ofNat (b + 1) := by rw [i_eq, s7, t_of (by omega)]; omega
      have d8 : rd M k 8 = Int32.ofNat ((rd N 136 1).toInt.toNat - 1) := by rw [i_eq, s8, t_of (by omega)]; omega
      obtain ⟨cb, q1, q2, q3⟩ := clm_bits1 b (by omega) (rd N 136 1).toInt.toNat (by omega) (by omega)
      refine ⟨cb, q1, by rw [ex8, d7, d8]; exact q2, fun j hj => ?_⟩
      rw [q3 j hj]
      unfold clm
      rw [if_neg (by decide)]
      exact decide_eq_true_iff
  obtain ⟨cb, hcb, ecb, bcb⟩ := hcb
  have and0 : (r20 &&& x8) = 0 ↔ m &&& cb = 0 := by
    rw [em, ecb, o_and9 (by omega) hcb]
    have : m &&& cb ≤ m := Nat.and_le_left
    exact of_0 (by omega)
  have mcl : m &&& cb < 2 ^ (rd N 136 1).toInt.toNat := Nat.lt_of_le_of_lt Nat.and_le_left hm
  have A : ¬ (r20 &&& x8) = 0 ↔ ∃ i, i < (rd N 136 1).toInt.toNat ∧ clm b s i ∧ HB N i := by
    rw [not_congr and0, nz_bits mcl]
    constructor
    · rintro ⟨i, hi, q⟩
      rw [Nat.testBit_and, Bool.and_eq_true] at q
      have c1 := (bcb i hi).mp q.2
      refine ⟨i, hi, c1, ?_⟩
      rcases (bm i hi).mp q.1 with z | z
      · exact z
      · exact absurd c1 z.1
    · rintro ⟨i, hi, c1, hB⟩
      refine ⟨i, hi, ?_⟩
      rw [Nat.testBit_and, Bool.and_eq_true]
      exact ⟨(bm i hi).mpr (Or.inl hB), (bcb i hi).mpr c1⟩
  have B : ¬ r17 = 0 ↔ ∃ i, i < (rd N 136 1).toInt.toNat ∧ clm b s i ∧ HB N i := by
    rw [em1, not_congr (of_0 (by omega)), nz_bits hm1]
    constructor
    · rintro ⟨i, hi, q⟩
      rcases (bm1 i hi).mp q with z | z
      · exact ⟨i, hi, z.1, z.2.2⟩
      · exact absurd rfl z.2.1
    · rintro ⟨i, hi, c1, hB⟩
      exact ⟨i, hi, (bm1 i hi).mpr (Or.inl ⟨c1, by decide, hB⟩)⟩
  have AB : (r20 &&& x8) = 0 ↔ r17 = 0 := Decidable.not_iff_not.mp (A.trans B.symm)
  refine R2.il (fun d => R2.ir (fun _ => ?_) (fun z => absurd (AB.mp d) z)) (fun d => R2.ir (fun z => absurd (AB.mpr z) d) (fun _ => R2.ok ⟨rfl, rfl, rfl⟩))
  refine R2.cr (pc_hitR (b := b) (s := s) (c := 0) (fr := 1) (by omega) hs h0 h9) (fun r21 p21 => ?_)
  obtain ⟨m2, em2, hm2, bm2⟩ := p21
  have C : ¬ r20 = 0 ↔ ¬ r21 = 0 := by
    rw [em, em2, not_congr (of_0 (by omega)), not_congr (of_0 (by omega)), nz_bits hm, nz_bits hm2]
    have nA : ¬ ∃ i, i < (rd N 136 1).toInt.toNat ∧ clm b s i ∧ HB N i := fun z => (A.mpr z) d
    constructor
    · rintro ⟨i, hi, q⟩
      refine ⟨i, hi, (bm2 i hi).mpr (Or.inr ?_)⟩
      rcases (bm i hi).mp q with z | z
      · exact ⟨fun c1 => nA ⟨i, hi, c1, z⟩, by decide, Or.inl z⟩
      · exact ⟨z.1, by decide, Or.inr z.2⟩
    · rintro ⟨i, hi, q⟩
      refine ⟨i, hi, (bm i hi).mpr ?_⟩
      rcases (bm2 i hi).mp q with z | z
      · exact absurd rfl z.2.1
      · rcases z.2.2 with y | y
        · exact Or.inl y
        · exact Or.inr ⟨z.1, y⟩
  have C' : r20 = 0 ↔ r21 = 0 := Decidable.not_iff_not.mp C
  refine R2.il (fun d2 => R2.ir (fun _ => ?_) (fun z => absurd (C'.mp d2) z)) (fun d2 => R2.ir (fun z => absurd (C'.mpr z) d2) (fun _ => R2.ok ⟨rfl, rfl, rfl⟩))
  refine R2.cl (pc_crsC h.1 h.2.1 h0 h9) (fun x px => R2.cr (pc_crsR h0 h9) (fun y py => ?_))
  rcases px with ⟨rfl, px⟩ | ⟨rfl, px⟩ <;> rcases py with ⟨rfl, py⟩ | ⟨rfl, py⟩
  · exact R2.il (fun z => absurd z (by decide)) (fun _ => R2.ir (fun z => absurd z (by decide)) (fun _ => R2.ok ⟨rfl, rfl, rfl⟩))
  · exact absurd px py
  · exact absurd py px
  · exact R2.il (fun _ => R2.ir (fun _ => R2.ok ⟨rfl, rfl, rfl⟩) (fun z => absurd rfl z)) (fun z => absurd rfl z)
end WY
end
/-! part 60zy.reason -/
section
/-! the reason of a step -/
section RR
variable {M N : Mem} {k k1 b s a n : Nat}
theorem reason_B (hd8 : k1 + 8 ≤ k) (hP : PB k1 M (row 136 N)) (hn : (rd N 136 0).toInt = (n : Int)) (hb : b < n) (hs : s < 2) (ha : a < 2 ^ n) :
    R2 (mX2_reasonFor k k1 (Int32.ofNat a) (Int32.ofNat (2 * b + s)) M) (mX7_reasonOf 135 (Int32.ofNat b) (Int32.ofNat s) (Int32.ofNat a) N) (WyR k b s M N) := by
  have n8 : n ≤ 8 := by have := hP.n8; have e : (row 136 N 0).toInt = (n : Int) := hn; omega
  have l1 : (rd N 136 1).toInt = (n : Int) + 1 := by
    have e : (row 136 N 0).toInt = (n : Int) := hn
    have h1 := hP.nn
    have h2 := hP.lb
    have e1 : (row 136 N 1).toInt = (rd N 136 1).toInt := rfl
    rw [e, e1] at h1
    rw [e1] at h2
    split at h1 <;> omega
  have a256 : a < 256 := by
    have : 2 ^ n ≤ 2 ^ 8 := Nat.pow_le_pow_right (by decide) n8
    have h8 : (2 : Nat) ^ 8 = 256 := rfl
    omega
  have tb : (Int32.ofNat b).toInt = (b : Int) := t_of (by omega)
  have hf0 := f_has0 a a256 b (by omega)
  have hf1 := f_has a a256 b (by omega)
  -- behind the bend
  have go : ∀ fl : Nat, fl = (if s = 0 then b + 1 else b) → R2 (mX2_reasonFor_b20 k k1 (Int32.ofNat a) (Int32.ofNat (2 * b + s)) (Int32.ofNat b) (Int32.ofNat fl) M) (mX7_reasonOf 135 (Int32.ofNat b) (Int32.ofNat s) (Int32.ofNat a) N) (WyR k b s M N) := by
    intro fl hfl
    have fl9 : fl < 9 := by rw [hfl]; split <;> omega
    have flL : (fl : Int) < (rd N 136 1).toInt := by rw [hfl]; split <;> omega
    have tf : (Int32.ofNat fl).toInt = (fl : Int) := t_of (by omega)
    have cf := c_of (a := fl) (by omega)
    unfold mX2_reasonFor_b20 mX7_reasonOf mX7_has
    refine R2.il (fun c => ?_) (fun c => ?_)
    · have tz := hf0.mp c
      have nz : ¬ (((Int32.ofNat a >>> (Int32.ofNat b &&& 31)) &&& (1 : Int32)) = (1 : Int32)) := fun z => by rw [hf1.mp z] at tz; exact absurd tz (by decide)
      refine R2.cr (Q := fun r => r = 0) (Pc.i (fun z => absurd z nz) (fun _ => Pc.ok rfl)) (fun r er => R2.ir (fun _ => ?_) (fun z => absurd er z))
      have z8 : rd M (k1 + 2) ((8 : Int32)).toNatClampNeg = rd N 136 47 := hP.tl 8 (by decide)
      have zl : rd M (k1 + 1) (Int32.ofNat fl).toNatClampNeg = rd N 136 (2 + fl) := by rw [cf]; exact hP.leg fl flL
      rw [z8, zl]
      have short : Pc (mX7_isShort 135 (Int32.ofNat b) (Int32.ofNat s) N) (fun r => (r = 0 ∧ rd N 136 47 ≤ rd N 136 (2 + fl)) ∨ (r = 1 ∧ ¬ rd N 136 47 ≤ rd N 136 (2 + fl))) := by
        have b11 : Pc (mX7_isShort_b11 135 N (Int32.ofNat fl)) (fun r => (r = 0 ∧ rd N 136 47 ≤ rd N 136 (2 + fl)) ∨ (r = 1 ∧ ¬ rd N 136 47 ≤ rd N 136 (2 + fl))) := by
          unfold mX7_isShort_b11
          have c2 : ((2 : Int32) + Int32.ofNat fl).toNatClampNeg = 2 + fl := by
            rw [i_clamp, i_add (by rw [show ((2 : Int32)).toInt = 2 from rfl]; omega) (by rw [show ((2 : Int32)).toInt = 2 from rfl]; omega), show ((2 : Int32)).toInt = 2 from rfl]; omega
          rw [c2]
          refine Pc.k (fun _ => Pc.c (pc_toolOf (i := 47) (by decide)) (fun r4 e4 => ?_))
          rw [e4]
          exact Pc.i (fun c => Pc.ok (Or.inl ⟨rfl, c⟩)) (fun c => Pc.ok (Or.inr ⟨rfl, c⟩))
        unfold mX7_isShort
        have hs2 : s = 0 ∨ s = 1 := by omega
        rcases hs2 with rfl | rfl
        · rw [if_pos rfl] at hfl
          have e1 : Int32.ofNat b + (1 : Int32) = Int32.ofNat fl := by rw [hfl]; exact (Int32.ofNat_add b 1).symm
          rw [e1]
          exact Pc.i (fun _ => b11) (fun z => absurd rfl z)
        · rw [if_neg (by decide)] at hfl
          rw [← hfl]
          exact Pc.i (fun z => absurd z (by decide)) (fun _ => b11)
      refine R2.il (fun z => ?_) (fun _ => R2.il (fun z => ?_) (fun _ => R2.kl (fun _ => R2.kl (fun _ => R2.cr short (fun r6 p6 => ?_)))))
      · have z := i_lt.mp z
        rw [tf, show ((0 : Int32)).toInt = 0 from rfl] at z
        exfalso; omega
      · have z := i_le.mp z
        rw [tf, show ((9 : Int32)).toInt = 9 from rfl] at z
        exfalso; omega
      rcases p6 with ⟨rfl, p6⟩ | ⟨rfl, p6⟩
      · refine R2.il (fun _ => R2.ir (fun _ => ?_) (fun z => absurd rfl z)) (fun z => absurd p6 z)
        refine R2.mm (sheet_B hd8 hP hn hb hs ha) (fun M1 _ N1 _ r => ?_)
        obtain ⟨hS, kM, kN⟩ := r
        have hS : SH k b s M1 N1 := hS
        have kM : KS (SPs k) M M1 := kM
        have kN : KS SRl N N1 := kN
        have hP1 : PB k1 M1 (row 136 N1) := by rw [row_srl kN]; exact hP.sps hd8 kM
        have l1' : (rd N1 136 1).toInt = (n : Int) + 1 := by rw [kN 136 1 (by unfold SRl; omega)]; exact l1
        refine R2.mono (why_in hd8 hP1 l1' n8 hb hs hS) (fun p q w => ⟨w.1, ?_, ?_, fun _ => ?_⟩)
        · rw [w.2.1]; exact kM
        · rw [w.2.2]; exact kN
        · rw [w.2.1, w.2.2]; exact hS
      · exact R2.il (fun z => absurd z p6) (fun _ => R2.ir (fun z => absurd z (by decide)) (fun _ => R2.ok ⟨rfl, KS.rf, KS.rf, fun z => absurd (show (2 : Int32) = 0 from z) (by decide)⟩))
    · have tz : a.testBit b = true := by
        cases e : a.testBit b with
        | true => rfl
        | false => exact absurd (hf0.mpr e) c
      refine R2.cr (Q := fun r => r = 1) (Pc.i (fun _ => Pc.ok rfl) (fun z => absurd (hf1.mpr tz) z)) (fun r er => R2.ir (fun z => absurd (er.symm.trans z) (by decide)) (fun _ => R2.ok ⟨rfl, KS.rf, KS.rf, fun z => absurd (show (1 : Int32) = 0 from z) (by decide)⟩))
  unfold mX2_reasonFor
  rw [f_shr1 (2 * b + s) (by omega), show (2 * b + s) / 2 = b by omega, f_and1 (2 * b + s) (by omega), show (2 * b + s) % 2 = s by omega, bnd_e]
  have hs2 : s = 0 ∨ s = 1 := by omega
  rcases hs2 with rfl | rfl
  · refine R2.il (fun _ => ?_) (fun z => absurd rfl z)
    have e1 : Int32.ofNat b + (1 : Int32) = Int32.ofNat (b + 1) := (Int32.ofNat_add b 1).symm
    rw [e1]
    exact go (b + 1) (by rw [if_pos rfl])
  · exact R2.il (fun z => absurd z (by decide)) (fun _ => go b (by rw [if_neg (by decide)]))
/-- the gauge of a step -/
theorem gaugeOf_G (hd8 : k1 + 8 ≤ k) (hP : PG k1 M (row 136 N)) (hn : (rd N 136 0).toInt = (n : Int)) (hb : b < n) (hs : s < 2) (ha : a < 2 ^ n) :
    R2 (cal (mX2_layStep k k1 (Int32.ofNat a) (Int32.ofNat (2 * b + s)) M) (fun M1 _ => cap (mX2_reachToBack k M1) (fun r => some (M1, r)))) (mX7_gaugeOf 135 (Int32.ofNat b) (Int32.ofNat s) (Int32.ofNat a) N) (fun p q => p.2 = q.2 ∧ KS (SPs k) M p.1 ∧ KS SRl N q.1) := by
  have n8 : n ≤ 8 := by have := hP.n8; have e : (row 136 N 0).toInt = (n : Int) := hn; omega
  have h9 : (rd N 136 1).toInt ≤ 9 := hP.lb.2
  unfold mX7_gaugeOf
  refine R2.mm (sheet_G hd8 hP hn hb hs ha) (fun M1 _ N1 _ r => ?_)
  obtain ⟨hS, kM, kN⟩ := r
  have kN' : KS SRl N N1 := kN
  have h9' : (rd N1 136 1).toInt ≤ 9 := by rw [kN' 136 1 (by unfold SRl; omega)]; exact h9
  exact R2.cc (gauge_R hS (by omega) hs h9') (fun g g' e => R2.ok ⟨e, kM, kN⟩)
theorem gaugeOf_B (hd8 : k1 + 8 ≤ k) (hP : PB k1 M (row 136 N)) (hn : (rd N 136 0).toInt = (n : Int)) (hb : b < n) (hs : s < 2) (ha : a < 2 ^ n) :
    R2 (cal (mX2_layStep k k1 (Int32.ofNat a) (Int32.ofNat (2 * b + s)) M) (fun M1 _ => cap (mX2_reachToBack k M1) (fun r => some (M1, r)))) (mX7_gaugeOf 135 (Int32.ofNat b) (Int32.ofNat s) (Int32.ofNat a) N) (fun p q => p.2 = q.2 ∧ KS (SPs k) M p.1 ∧ KS SRl N q.1) := gaugeOf_G hd8 hP.pg hn hb hs ha
theorem reason_R (hd8 : k1 + 8 ≤ k) (hP : PR k1 M (row 136 N)) (hn : (rd N 136 0).toInt = (n : Int)) (hb : b < n) (hs : s < 2) (ha : a < 2 ^ n) :
    R2 (mX2_reasonFor k k1 (Int32.ofNat a) (Int32.ofNat (2 * b + s)) M) (mX7_reasonOf 135 (Int32.ofNat b) (Int32.ofNat s) (Int32.ofNat a) N) (WyR k b s M N) := reason_B hd8 hP.pb hn hb hs ha
theorem gaugeOf_R (hd8 : k1 + 8 ≤ k) (hP : PR k1 M (row 136 N)) (hn : (rd N 136 0).toInt = (n : Int)) (hb : b < n) (hs : s < 2) (ha : a < 2 ^ n) :
    R2 (cal (mX2_layStep k k1 (Int32.ofNat a) (Int32.ofNat (2 * b + s)) M) (fun M1 _ => cap (mX2_reachToBack k M1) (fun r => some (M1, r)))) (mX7_gaugeOf 135 (Int32.ofNat b) (Int32.ofNat s) (Int32.ofNat a) N) (fun p q => p.2 = q.2 ∧ KS (SPs k) M p.1 ∧ KS SRl N q.1) := gaugeOf_B hd8 hP.pb hn hb hs ha
end RR
end
/-! part 60zz0.lng -/
section
/-! the long numbers: kept by all methods of the class but the counting of orders (printed) -/
def KL (M M' : Mem) : Prop := M'.2.1 129 = M.2.1 129
def FL {ρ : Type} (M : Mem) (x : Option (Mem × ρ)) : Prop := ∀ q, x = some q → KL M q.1
section FLS
variable {M M' M'' : Mem} {ρ σ γ : Type}
theorem KL.rf : KL M M := rfl
theorem KL.trans (h : KL M M') (h' : KL M' M'') : KL M M'' := Eq.trans h' h
theorem KL.rl (h : KL M M') (j : Nat) : rl M' (110 + 19) j = rl M (110 + 19) j := congrFun h j
theorem KL.wr {k j : Nat} {v : Int32} (h : KL M M') : KL M (wr M' k j v) := h
theorem KL.wd {k j : Nat} {v : UInt64} (h : KL M M') : KL M (wd M' k j v) := h
theorem KL.cp {k k2 sp dp n : Nat} (h : KL M M') : KL M (cpy M' k k2 sp dp n) := h
theorem FL.ok {r : ρ} (h : KL M M') : FL M (some (M', r)) := fun q e => by cases e; exact h
theorem FL.n : FL M (none : Option (Mem × ρ)) := fun q e => by cases e
theorem FL.bw {k j : Nat} {v : Int32} {K : Mem → Option (Mem × ρ)} (h : KL M M') (hk : ∀ M1, KL M M1 → FL M (K M1)) : FL M (bnd (wr M' k j v) K) := hk _ h.wr
theorem FL.bd {k j : Nat} {v : UInt64} {K : Mem → Option (Mem × ρ)} (h : KL M M') (hk : ∀ M1, KL M M1 → FL M (K M1)) : FL M (bnd (wd M' k j v) K) := hk _ h.wd
theorem FL.bc {k k2 sp dp n : Nat} {K : Mem → Option (Mem × ρ)} (h : KL M M') (hk : ∀ M1, KL M M1 → FL M (K M1)) : FL M (bnd (cpy M' k k2 sp dp n) K) := hk _ h.cp
theorem FL.b {e : γ} {K : γ → Option (Mem × ρ)} (hk : ∀ v, FL M (K v)) : FL M (bnd e K) := hk e
theorem FL.k {b : Bool} {x : Option (Mem × ρ)} (h : FL M x) : FL M (chk b x) := fun q e => h q (chk_s e).2
theorem FL.i {c : Prop} [Decidable c] {a b : Option (Mem × ρ)} (h1 : FL M a) (h2 : FL M b) : FL M (ite2 c a b) := by
  unfold ite2
  split
  · exact h1
  · exact h2
theorem FL.c {x : Option γ} {K : γ → Option (Mem × ρ)} (hk : ∀ r, FL M (K r)) : FL M (cap x K) := fun q e => by
  obtain ⟨r, _, e2⟩ := cap_s e
  exact hk r q e2
theorem FL.m {x : Option (Mem × σ)} {K : Mem → σ → Option (Mem × ρ)} (h : FL M x) (hk : ∀ M1 r, KL M M1 → FL M (K M1 r)) : FL M (cal x K) := fun q e => by
  obtain ⟨M1, r, e1, e2⟩ := cal_s e
  exact hk M1 r (h _ e1) q e2
theorem FL.o {r : Option Nat} {a : Option (Mem × ρ)} {b : Nat → Option (Mem × ρ)} (h1 : FL M a) (h2 : ∀ w, FL M (b w)) : FL M (opt r a b) := by
  cases r with
  | none => exact h1
  | some w => exact h2 w
theorem FL.x {x : Option (Mem × (ρ ⊕ Nat))} {K : Mem → ρ → Option (Mem × (σ ⊕ Nat))} (h : FL M x) (hk : ∀ M1 r, KL M M1 → FL M (K M1 r)) : FL M (calx x K) := fun q e => by
  cases x with
  | none => cases e
  | some y =>
    obtain ⟨M1, r⟩ := y
    cases r with
    | inl r => exact hk M1 r (h _ rfl) q e
    | inr w => cases e; exact h _ rfl
theorem FL.t {x : Option (Mem × (γ ⊕ Nat))} {K : Mem → γ → Option (Mem × ρ)} {g : Mem → Nat → Option (Mem × ρ)} (h : FL M x) (hk : ∀ M1 r, KL M M1 → FL M (K M1 r)) (hg : ∀ M1 r, KL M M1 → FL M (g M1 r)) : FL M (calt x K g) := fun q e => by
  cases x with
  | none => cases e
  | some y =>
    obtain ⟨M1, r⟩ := y
    cases r with
    | inl r => exact hk M1 r (h _ rfl) q e
    | inr w => exact hg M1 w (h _ rfl) q e
end FLS
section FFlng
variable {M0 : Mem}
theorem lX1_putSheet {k0 : Nat} {x1 : Int32} {x2 : Int32} {x3 : Int32} {M : Mem} (hM : KL M0 M) : FL M0 (mX1_putSheet k0 x1 x2 x3 M) := by
  unfold mX1_putSheet
  exact (FL.bw hM (fun M1 hM1 => (FL.bw hM1 (fun M3 hM3 => (FL.bw hM3 (fun M5 hM5 => (FL.ok hM5)))))))
theorem lX1_putTool {k0 : Nat} {x1 : Int32} {x2 : Int32} {x3 : Int32} {M : Mem} (hM : KL M0 M) : FL M0 (mX1_putTool k0 x1 x2 x3 M) := by
  unfold mX1_putTool
  exact (FL.i (FL.ok hM) (FL.i (FL.ok hM) (FL.k (FL.bw hM (fun M5 hM5 => (FL.k (FL.bw hM5 (fun M8 hM8 => (FL.ok hM8)))))))))
theorem lX1_putCosts {k0 : Nat} {x1 : Int32} {x2 : Int32} {x3 : Int32} {M : Mem} (hM : KL M0 M) : FL M0 (mX1_putCosts k0 x1 x2 x3 M) := by
  unfold mX1_putCosts
  exact (FL.bw hM (fun M1 hM1 => (FL.bw hM1 (fun M3 hM3 => (FL.bw hM3 (fun M5 hM5 => (FL.ok hM5)))))))
theorem lX1_dropSteps {k0 : Nat} {M : Mem} (hM : KL M0 M) : FL M0 (mX1_dropSteps k0 M) := by
  unfold mX1_dropSteps
  exact (FL.bw hM (fun M1 hM1 => (FL.bw hM1 (fun M3 hM3 => (FL.ok hM3)))))
theorem lX1_clear {k0 : Nat} {M : Mem} (hM : KL M0 M) : FL M0 (mX1_clear k0 M) := by
  unfold mX1_clear
  exact (FL.bw hM (fun M1 hM1 => (FL.bw hM1 (fun M3 hM3 => (FL.bw hM3 (fun M5 hM5 => (FL.m (lX1_putSheet hM5) (fun M9 _ hM9 => (FL.m (lX1_putTool hM9) (fun M12 _ hM12 => (FL.m (lX1_putTool hM12) (fun M15 _ hM15 => (FL.m (lX1_putTool hM15) (fun M18 _ hM18 => (FL.m (lX1_putTool hM18) (fun M21 _ hM21 => (FL.m (lX1_putTool hM21) (fun M24 _ hM24 => (FL.m (lX1_putCosts hM24) (fun M27 _ hM27 => (FL.m (lX1_dropSteps hM27) (fun M30 _ hM30 => (FL.ok hM30)))))))))))))))))))))))
theorem lX1_copyFrom {k0 : Nat} {k1 : Nat} {M : Mem} (hM : KL M0 M) : FL M0 (mX1_copyFrom k0 k1 M) := by
  unfold mX1_copyFrom
  exact (FL.bw hM (fun M1 hM1 => (FL.bc hM1 (fun M3 hM3 => (FL.bw hM3 (fun M5 hM5 => (FL.m (lX1_putSheet hM5) (fun M9 _ hM9 => (FL.bc hM9 (fun M10 hM10 => (FL.m (lX1_putCosts hM10) (fun M14 _ hM14 => (FL.bw hM14 (fun M15 hM15 => (FL.bc hM15 (fun M17 hM17 => (FL.bc hM17 (fun M19 hM19 => (FL.bw hM19 (fun M21 hM21 => (FL.bw hM21 (fun M23 hM23 => (FL.bc hM23 (fun M25 hM25 => (FL.bc hM25 (fun M27 hM27 => (FL.bc hM27 (fun M29 hM29 => (FL.ok hM29)))))))))))))))))))))))))))))
theorem lX1_addBack {k0 : Nat} {x1 : Int32} {x2 : Int32} {M : Mem} (hM : KL M0 M) : FL M0 (mX1_addBack k0 x1 x2 M) := by
  unfold mX1_addBack
  exact (FL.i (FL.ok hM) (FL.k (FL.bw hM (fun M4 hM4 => (FL.k (FL.bw hM4 (fun M7 hM7 => (FL.bw hM7 (fun M8 hM8 => (FL.ok hM8))))))))))
theorem lX1_addLeg_b47 {k0 : Nat} {M : Mem} (hM : KL M0 M) : FL M0 (mX1_addLeg_b47 k0 M) := by
  unfold mX1_addLeg_b47
  exact (FL.bw hM (fun M6 hM6 => (FL.ok hM6)))
theorem lX1_addLeg {k0 : Nat} {x1 : Int32} {x2 : Int32} {M : Mem} (hM : KL M0 M) : FL M0 (mX1_addLeg k0 x1 x2 M) := by
  unfold mX1_addLeg
  exact (FL.i (FL.ok hM) (FL.k (FL.bw hM (fun M4 hM4 => (FL.i (lX1_addLeg_b47 hM4) (FL.i (lX1_addLeg_b47 hM4) (FL.bw hM4 (fun M9 hM9 => (lX1_addLeg_b47 hM9)))))))))
theorem lX1_addStep {k0 : Nat} {x1 : Int32} {x2 : Int32} {x3 : Int32} {M : Mem} (hM : KL M0 M) : FL M0 (mX1_addStep k0 x1 x2 x3 M) := by
  unfold mX1_addStep
  exact (FL.i (FL.ok hM) (FL.k (FL.bw hM (fun M4 hM4 => (FL.k (FL.bw hM4 (fun M7 hM7 => (FL.k (FL.bw hM7 (fun M10 hM10 => (FL.bw hM10 (fun M11 hM11 => (FL.bw hM11 (fun M13 hM13 => (FL.ok hM13)))))))))))))))
theorem lX2_walk_b272 {k0 : Nat} {k1 : Nat} {ih13 : Int32 → Int32 → Int32 → Int32 → Int32 → Int32 → Int32 → Int32 → Mem → Option (Mem × Unit)} {x3 : Int32} {x5 : Int32} {x6 : Int32} {x7 : Int32} {x8 : Int32} {x9 : Int32} {x10 : Int32} {x11 : Int32} {M : Mem} (hih13 : ∀ (v0 : Int32) (v1 : Int32) (v2 : Int32) (v3 : Int32) (v4 : Int32) (v5 : Int32) (v6 : Int32) (v7 : Int32) (v8 : Mem), KL M0 v8 → FL M0 (ih13 v0 v1 v2 v3 v4 v5 v6 v7 v8)) (hM : KL M0 M) : FL M0 (mX2_walk_b272 k0 k1 ih13 x3 x5 x6 x7 x8 x9 x10 x11 M) := by
  unfold mX2_walk_b272
  exact (FL.b (fun x11_276 => (hih13 _ _ _ _ _ _ _ _ _ hM)))
theorem lX2_walk_b267 {k0 : Nat} {k1 : Nat} {ih13 : Int32 → Int32 → Int32 → Int32 → Int32 → Int32 → Int32 → Int32 → Mem → Option (Mem × Unit)} {x3 : Int32} {x5 : Int32} {x6 : Int32} {x7 : Int32} {x8 : Int32} {x9 : Int32} {x11 : Int32} {y0 : Int32} {y1 : Int32} {M : Mem} (hih13 : ∀ (v0 : Int32) (v1 : Int32) (v2 : Int32) (v3 : Int32) (v4 : Int32) (v5 : Int32) (v6 : Int32) (v7 : Int32) (v8 : Mem), KL M0 v8 → FL M0 (ih13 v0 v1 v2 v3 v4 v5 v6 v7 v8)) (hM : KL M0 M) : FL M0 (mX2_walk_b267 k0 k1 ih13 x3 x5 x6 x7 x8 x9 x11 y0 y1 M) := by
  unfold mX2_walk_b267
  exact (FL.b (fun x10_270 => (lX2_walk_b272 hih13 hM)))
theorem lX2_walk_b249 {k0 : Nat} {k1 : Nat} {ih13 : Int32 → Int32 → Int32 → Int32 → Int32 → Int32 → Int32 → Int32 → Mem → Option (Mem × Unit)} {x3 : Int32} {x5 : Int32} {x6 : Int32} {x7 : Int32} {x8 : Int32} {x9 : Int32} {x10 : Int32} {x11 : Int32} {y0 : Int32} {M : Mem} (hih13 : ∀ (v0 : Int32) (v1 : Int32) (v2 : Int32) (v3 : Int32) (v4 : Int32) (v5 : Int32) (v6 : Int32) (v7 : Int32) (v8 : Mem), KL M0 v8 → FL M0 (ih13 v0 v1 v2 v3 v4 v5 v6 v7 v8)) (hM : KL M0 M) : FL M0 (mX2_walk_b249 k0 k1 ih13 x3 x5 x6 x7 x8 x9 x10 x11 y0 M) := by
  unfold mX2_walk_b249
  exact (FL.i (lX2_walk_b267 hih13 hM) (lX2_walk_b267 hih13 hM))
theorem lX2_walk_b217 {k0 : Nat} {k1 : Nat} {ih13 : Int32 → Int32 → Int32 → Int32 → Int32 → Int32 → Int32 → Int32 → Mem → Option (Mem × Unit)} {x3 : Int32} {x5 : Int32} {x6 : Int32} {x7 : Int32} {x8 : Int32} {x9 : Int32} {x10 : Int32} {x11 : Int32} {y0 : Int32} {M : Mem} (hih13 : ∀ (v0 : Int32) (v1 : Int32) (v2 : Int32) (v3 : Int32) (v4 : Int32) (v5 : Int32) (v6 : Int32) (v7 : Int32) (v8 : Mem), KL M0 v8 → FL M0 (ih13 v0 v1 v2 v3 v4 v5 v6 v7 v8)) (hM : KL M0 M) : FL M0 (mX2_walk_b217 k0 k1 ih13 x3 x5 x6 x7 x8 x9 x10 x11 y0 M) := by
  unfold mX2_walk_b217
  exact (FL.i (lX2_walk_b272 hih13 hM) (FL.i (lX2_walk_b272 hih13 hM) (FL.i (lX2_walk_b249 hih13 hM) (lX2_walk_b249 hih13 hM))))
theorem lX2_walk_b108 {k0 : Nat} {k1 : Nat} {ih13 : Int32 → Int32 → Int32 → Int32 → Int32 → Int32 → Int32 → Int32 → Mem → Option (Mem × Unit)} {x3 : Int32} {x5 : Int32} {x6 : Int32} {x7 : Int32} {x8 : Int32} {x9 : Int32} {x10 : Int32} {x11 : Int32} {y1 : Int32} {y2 : Int32} {y3 : Int32} {M : Mem} (hih13 : ∀ (v0 : Int32) (v1 : Int32) (v2 : Int32) (v3 : Int32) (v4 : Int32) (v5 : Int32) (v6 : Int32) (v7 : Int32) (v8 : Mem), KL M0 v8 → FL M0 (ih13 v0 v1 v2 v3 v4 v5 v6 v7 v8)) (hM : KL M0 M) : FL M0 (mX2_walk_b108 k0 k1 ih13 x3 x5 x6 x7 x8 x9 x10 x11 y1 y2 y3 M) := by
  unfold mX2_walk_b108
  exact (FL.k (FL.bw hM (fun M15 hM15 => (FL.k (FL.k (FL.bw hM15 (fun M19 hM19 => (FL.k (FL.k (FL.bw hM19 (fun M23 hM23 => (FL.k (FL.k (FL.bw hM23 (fun M27 hM27 => (FL.k (FL.k (FL.bw hM27 (fun M31 hM31 => (FL.k (FL.b (fun x8_193 => (FL.k (FL.b (fun x9_202 => (FL.i (lX2_walk_b217 hih13 hM31) (lX2_walk_b217 hih13 hM31)))))))))))))))))))))))))))
theorem lX2_walk_b75 {k0 : Nat} {k1 : Nat} {ih13 : Int32 → Int32 → Int32 → Int32 → Int32 → Int32 → Int32 → Int32 → Mem → Option (Mem × Unit)} {x3 : Int32} {x5 : Int32} {x6 : Int32} {x7 : Int32} {x8 : Int32} {x9 : Int32} {x10 : Int32} {x11 : Int32} {x12 : Int32} {y1 : Int32} {y2 : Int32} {y3 : Int32} {M : Mem} (hih13 : ∀ (v0 : Int32) (v1 : Int32) (v2 : Int32) (v3 : Int32) (v4 : Int32) (v5 : Int32) (v6 : Int32) (v7 : Int32) (v8 : Mem), KL M0 v8 → FL M0 (ih13 v0 v1 v2 v3 v4 v5 v6 v7 v8)) (hM : KL M0 M) : FL M0 (mX2_walk_b75 k0 k1 ih13 x3 x5 x6 x7 x8 x9 x10 x11 x12 y1 y2 y3 M) := by
  unfold mX2_walk_b75
  exact (FL.k (FL.bw hM (fun M10 hM10 => (FL.i (lX2_walk_b108 hih13 hM10) (FL.i (lX2_walk_b108 hih13 hM10) (lX2_walk_b108 hih13 hM10))))))
theorem lX2_walk_b13 {k0 : Nat} {k1 : Nat} {ih13 : Int32 → Int32 → Int32 → Int32 → Int32 → Int32 → Int32 → Int32 → Mem → Option (Mem × Unit)} {x3 : Int32} {x5 : Int32} {x6 : Int32} {x7 : Int32} {x8 : Int32} {x9 : Int32} {x10 : Int32} {x11 : Int32} {M : Mem} (hih13 : ∀ (v0 : Int32) (v1 : Int32) (v2 : Int32) (v3 : Int32) (v4 : Int32) (v5 : Int32) (v6 : Int32) (v7 : Int32) (v8 : Mem), KL M0 v8 → FL M0 (ih13 v0 v1 v2 v3 v4 v5 v6 v7 v8)) (hM : KL M0 M) : FL M0 (mX2_walk_b13 k0 k1 ih13 x3 x5 x6 x7 x8 x9 x10 x11 M) := by
  unfold mX2_walk_b13
  exact (FL.i (FL.ok hM) (FL.i (FL.ok hM) (FL.i (FL.ok hM) (FL.k (FL.b (fun x12_41 => (FL.i (lX2_walk_b75 hih13 hM) (FL.i (lX2_walk_b75 hih13 hM) (lX2_walk_b75 hih13 hM)))))))))
theorem lX2_walk_l13_n {k0 : Nat} {k1 : Nat} : ∀ (n : Nat) (v0 : Int32) (v1 : Int32) (v2 : Int32) (v3 : Int32) (v4 : Int32) (v5 : Int32) (v6 : Int32) (v7 : Int32) (v8 : Mem), KL M0 v8 → FL M0 (mX2_walk_l13 k0 k1 n v0 v1 v2 v3 v4 v5 v6 v7 v8) := by
  intro n
  induction n with
  | zero => intro v0 v1 v2 v3 v4 v5 v6 v7 v8 h; exact FL.n
  | succ n IH => intro v0 v1 v2 v3 v4 v5 v6 v7 v8 h; exact lX2_walk_b13  IH h
theorem lX2_walk_l13 {k0 : Nat} {k1 : Nat} {v0 : Int32} {v1 : Int32} {v2 : Int32} {v3 : Int32} {v4 : Int32} {v5 : Int32} {v6 : Int32} {v7 : Int32} {v8 : Mem} {n : Nat} (h : KL M0 v8) : FL M0 (mX2_walk_l13 k0 k1 n v0 v1 v2 v3 v4 v5 v6 v7 v8) := lX2_walk_l13_n   n v0 v1 v2 v3 v4 v5 v6 v7 v8 h
theorem lX2_walk {k0 : Nat} {k1 : Nat} {x2 : Int32} {x3 : Int32} {x4 : Int32} {x5 : Int32} {x6 : Int32} {x7 : Int32} {M : Mem} (hM : KL M0 M) : FL M0 (mX2_walk k0 k1 x2 x3 x4 x5 x6 x7 M) := by
  unfold mX2_walk
  exact (lX2_walk_l13 hM)
theorem lX2_layFinished {k0 : Nat} {k1 : Nat} {M : Mem} (hM : KL M0 M) : FL M0 (mX2_layFinished k0 k1 M) := by
  unfold mX2_layFinished
  exact (FL.bw hM (fun M1 hM1 => (FL.c (fun r4 => (FL.m (lX2_walk hM1) (fun M8 _ hM8 => (FL.ok hM8)))))))
theorem lX2_layStep_b27 {k0 : Nat} {k1 : Nat} {x2 : Int32} {x3 : Int32} {x4 : Int32} {y0 : Int32} {M : Mem} (hM : KL M0 M) : FL M0 (mX2_layStep_b27 k0 k1 x2 x3 x4 y0 M) := by
  unfold mX2_layStep_b27
  exact (FL.bw hM (fun M6 hM6 => (FL.i (FL.bw hM6 (fun M19 hM19 => (FL.bw hM19 (fun M21 hM21 => (FL.m (lX2_walk hM21) (fun M25 _ hM25 => (FL.m (lX2_walk hM25) (fun M28 _ hM28 => (FL.ok hM28))))))))) (FL.bw hM6 (fun M9 hM9 => (FL.bw hM9 (fun M11 hM11 => (FL.m (lX2_walk hM11) (fun M15 _ hM15 => (FL.m (lX2_walk hM15) (fun M18 _ hM18 => (FL.ok hM18))))))))))))
theorem lX2_layStep {k0 : Nat} {k1 : Nat} {x2 : Int32} {x3 : Int32} {M : Mem} (hM : KL M0 M) : FL M0 (mX2_layStep k0 k1 x2 x3 M) := by
  unfold mX2_layStep
  exact (FL.b (fun x4_3 => (FL.c (fun r3 => (FL.i (lX2_layStep_b27 hM) (lX2_layStep_b27 hM))))))
theorem lX2_reasonFor_b20 {k0 : Nat} {k1 : Nat} {x2 : Int32} {x3 : Int32} {x4 : Int32} {y0 : Int32} {M : Mem} (hM : KL M0 M) : FL M0 (mX2_reasonFor_b20 k0 k1 x2 x3 x4 y0 M) := by
  unfold mX2_reasonFor_b20
  exact (FL.i (FL.i (FL.ok hM) (FL.i (FL.ok hM) (FL.k (FL.k (FL.i (FL.m (lX2_layStep hM) (fun M11 _ hM11 => (FL.c (fun r13 => (FL.k (FL.i (FL.ok hM11) (FL.k (FL.i (FL.c (fun r20 => (FL.b (fun x8_123 => (FL.i (FL.i (FL.c (fun r26 => (FL.i (FL.ok hM11) (FL.ok hM11)))) (FL.ok hM11)) (FL.ok hM11)))))) (FL.ok hM11))))))))) (FL.ok hM)))))) (FL.ok hM))
theorem lX2_reasonFor {k0 : Nat} {k1 : Nat} {x2 : Int32} {x3 : Int32} {M : Mem} (hM : KL M0 M) : FL M0 (mX2_reasonFor k0 k1 x2 x3 M) := by
  unfold mX2_reasonFor
  exact (FL.b (fun x4_3 => (FL.i (lX2_reasonFor_b20 hM) (lX2_reasonFor_b20 hM))))
theorem lX2_possibleSteps_b34 {k0 : Nat} {k1 : Nat} {ih5 : Int32 → Int32 → Int32 → Mem → Option (Mem × Int32)} {x2 : Int32} {x3 : Int32} {x4 : Int32} {M : Mem} (hih5 : ∀ (v0 : Int32) (v1 : Int32) (v2 : Int32) (v3 : Mem), KL M0 v3 → FL M0 (ih5 v0 v1 v2 v3)) (hM : KL M0 M) : FL M0 (mX2_possibleSteps_b34 k0 k1 ih5 x2 x3 x4 M) := by
  unfold mX2_possibleSteps_b34
  exact (FL.b (fun x4_34 => (hih5 _ _ _ _ hM)))
theorem lX2_possibleSteps_b5 {k0 : Nat} {k1 : Nat} {ih5 : Int32 → Int32 → Int32 → Mem → Option (Mem × Int32)} {x2 : Int32} {x3 : Int32} {x4 : Int32} {M : Mem} (hih5 : ∀ (v0 : Int32) (v1 : Int32) (v2 : Int32) (v3 : Mem), KL M0 v3 → FL M0 (ih5 v0 v1 v2 v3)) (hM : KL M0 M) : FL M0 (mX2_possibleSteps_b5 k0 k1 ih5 x2 x3 x4 M) := by
  unfold mX2_possibleSteps_b5
  exact (FL.c (fun r2 => (FL.i (FL.ok hM) (FL.m (lX2_reasonFor hM) (fun M7 r6 hM7 => (FL.i (FL.b (fun x3_33 => (lX2_possibleSteps_b34 hih5 hM7))) (lX2_possibleSteps_b34 hih5 hM7)))))))
theorem lX2_possibleSteps_l5_n {k0 : Nat} {k1 : Nat} : ∀ (n : Nat) (v0 : Int32) (v1 : Int32) (v2 : Int32) (v3 : Mem), KL M0 v3 → FL M0 (mX2_possibleSteps_l5 k0 k1 n v0 v1 v2 v3) := by
  intro n
  induction n with
  | zero => intro v0 v1 v2 v3 h; exact FL.n
  | succ n IH => intro v0 v1 v2 v3 h; exact lX2_possibleSteps_b5  IH h
theorem lX2_possibleSteps_l5 {k0 : Nat} {k1 : Nat} {v0 : Int32} {v1 : Int32} {v2 : Int32} {v3 : Mem} {n : Nat} (h : KL M0 v3) : FL M0 (mX2_possibleSteps_l5 k0 k1 n v0 v1 v2 v3) := lX2_possibleSteps_l5_n   n v0 v1 v2 v3 h
theorem lX2_possibleSteps {k0 : Nat} {k1 : Nat} {x2 : Int32} {M : Mem} (hM : KL M0 M) : FL M0 (mX2_possibleSteps k0 k1 x2 M) := by
  unfold mX2_possibleSteps
  exact (lX2_possibleSteps_l5 hM)
theorem lX3_reckonCostsBehind_b101 {k0 : Nat} {k1 : Nat} {ih2 : Int32 → Int32 → Mem → Option (Mem × Unit)} {x2 : Int32} {x3 : Int32} {M : Mem} (hih2 : ∀ (v0 : Int32) (v1 : Int32) (v2 : Mem), KL M0 v2 → FL M0 (ih2 v0 v1 v2)) (hM : KL M0 M) : FL M0 (mX3_reckonCostsBehind_b101 k0 k1 ih2 x2 x3 M) := by
  unfold mX3_reckonCostsBehind_b101
  exact (FL.b (fun x3_101 => (hih2 _ _ _ hM)))
theorem lX3_reckonCostsBehind_b2 {k0 : Nat} {k1 : Nat} {ih2 : Int32 → Int32 → Mem → Option (Mem × Unit)} {x2 : Int32} {x3 : Int32} {M : Mem} (hih2 : ∀ (v0 : Int32) (v1 : Int32) (v2 : Mem), KL M0 v2 → FL M0 (ih2 v0 v1 v2)) (hM : KL M0 M) : FL M0 (mX3_reckonCostsBehind_b2 k0 k1 ih2 x2 x3 M) := by
  unfold mX3_reckonCostsBehind_b2
  exact (FL.i (FL.ok hM) (FL.b (fun x4_17 => (FL.i (lX3_reckonCostsBehind_b101 hih2 hM) (FL.k (FL.i (lX3_reckonCostsBehind_b101 hih2 hM) (FL.c (fun r8 => (FL.i (lX3_reckonCostsBehind_b101 hih2 hM) (FL.k (FL.b (fun x5_57 => (FL.c (fun r14 => (FL.k (FL.bw hM (fun M18 hM18 => (FL.c (fun r20 => (FL.k (FL.bw hM18 (fun M24 hM24 => (lX3_reckonCostsBehind_b101 hih2 hM24)))))))))))))))))))))))
theorem lX3_reckonCostsBehind_l2_n {k0 : Nat} {k1 : Nat} : ∀ (n : Nat) (v0 : Int32) (v1 : Int32) (v2 : Mem), KL M0 v2 → FL M0 (mX3_reckonCostsBehind_l2 k0 k1 n v0 v1 v2) := by
  intro n
  induction n with
  | zero => intro v0 v1 v2 h; exact FL.n
  | succ n IH => intro v0 v1 v2 h; exact lX3_reckonCostsBehind_b2  IH h
theorem lX3_reckonCostsBehind_l2 {k0 : Nat} {k1 : Nat} {v0 : Int32} {v1 : Int32} {v2 : Mem} {n : Nat} (h : KL M0 v2) : FL M0 (mX3_reckonCostsBehind_l2 k0 k1 n v0 v1 v2) := lX3_reckonCostsBehind_l2_n   n v0 v1 v2 h
theorem lX3_reckonCostsBehind {k0 : Nat} {k1 : Nat} {x2 : Int32} {M : Mem} (hM : KL M0 M) : FL M0 (mX3_reckonCostsBehind k0 k1 x2 M) := by
  unfold mX3_reckonCostsBehind
  exact (lX3_reckonCostsBehind_l2 hM)
theorem lX3_reckonCosts_b27 {k0 : Nat} {k1 : Nat} {ih4 : Int32 → Mem → Option (Mem × Unit)} {x2 : Int32} {M : Mem} (hih4 : ∀ (v0 : Int32) (v1 : Mem), KL M0 v1 → FL M0 (ih4 v0 v1)) (hM : KL M0 M) : FL M0 (mX3_reckonCosts_b27 k0 k1 ih4 x2 M) := by
  unfold mX3_reckonCosts_b27
  exact (FL.b (fun x2_27 => (hih4 _ _ hM)))
theorem lX3_reckonCosts_b4 {k0 : Nat} {k1 : Nat} {ih4 : Int32 → Mem → Option (Mem × Unit)} {x2 : Int32} {M : Mem} (hih4 : ∀ (v0 : Int32) (v1 : Mem), KL M0 v1 → FL M0 (ih4 v0 v1)) (hM : KL M0 M) : FL M0 (mX3_reckonCosts_b4 k0 k1 ih4 x2 M) := by
  unfold mX3_reckonCosts_b4
  exact (FL.i (FL.c (fun r3 => (FL.c (fun r6 => (FL.c (fun r9 => (FL.bw hM (fun M11 hM11 => (FL.c (fun r14 => (FL.c (fun r17 => (FL.c (fun r20 => (FL.bw hM11 (fun M22 hM22 => (FL.ok hM22))))))))))))))))) (FL.k (FL.i (lX3_reckonCosts_b27 hih4 hM) (FL.m (lX3_reckonCostsBehind hM) (fun M29 _ hM29 => (lX3_reckonCosts_b27 hih4 hM29))))))
theorem lX3_reckonCosts_l4_n {k0 : Nat} {k1 : Nat} : ∀ (n : Nat) (v0 : Int32) (v1 : Mem), KL M0 v1 → FL M0 (mX3_reckonCosts_l4 k0 k1 n v0 v1) := by
  intro n
  induction n with
  | zero => intro v0 v1 h; exact FL.n
  | succ n IH => intro v0 v1 h; exact lX3_reckonCosts_b4  IH h
theorem lX3_reckonCosts_l4 {k0 : Nat} {k1 : Nat} {v0 : Int32} {v1 : Mem} {n : Nat} (h : KL M0 v1) : FL M0 (mX3_reckonCosts_l4 k0 k1 n v0 v1) := lX3_reckonCosts_l4_n   n v0 v1 h
theorem lX3_reckonCosts {k0 : Nat} {k1 : Nat} {M : Mem} (hM : KL M0 M) : FL M0 (mX3_reckonCosts k0 k1 M) := by
  unfold mX3_reckonCosts
  exact (lX3_reckonCosts_l4 hM)
theorem lX3_choosePlan_b127 {k0 : Nat} {k1 : Nat} {ih40 : Int32 → Int32 → Int32 → Int32 → Int32 → Mem → Option (Mem × Unit)} {x2 : Int32} {x3 : Int32} {x4 : Int32} {x5 : Int32} {x6 : Int32} {M : Mem} (hih40 : ∀ (v0 : Int32) (v1 : Int32) (v2 : Int32) (v3 : Int32) (v4 : Int32) (v5 : Mem), KL M0 v5 → FL M0 (ih40 v0 v1 v2 v3 v4 v5)) (hM : KL M0 M) : FL M0 (mX3_choosePlan_b127 k0 k1 ih40 x2 x3 x4 x5 x6 M) := by
  unfold mX3_choosePlan_b127
  exact (FL.b (fun x6_127 => (hih40 _ _ _ _ _ _ hM)))
theorem lX3_choosePlan_b40 {k0 : Nat} {k1 : Nat} {ih40 : Int32 → Int32 → Int32 → Int32 → Int32 → Mem → Option (Mem × Unit)} {x2 : Int32} {x3 : Int32} {x4 : Int32} {x5 : Int32} {x6 : Int32} {M : Mem} (hih40 : ∀ (v0 : Int32) (v1 : Int32) (v2 : Int32) (v3 : Int32) (v4 : Int32) (v5 : Mem), KL M0 v5 → FL M0 (ih40 v0 v1 v2 v3 v4 v5)) (hM : KL M0 M) : FL M0 (mX3_choosePlan_b40 k0 k1 ih40 x2 x3 x4 x5 x6 M) := by
  unfold mX3_choosePlan_b40
  exact (FL.i (FL.ok hM) (FL.i (FL.ok hM) (FL.c (fun r15 => (FL.i (lX3_choosePlan_b127 hih40 hM) (FL.k (FL.bw hM (fun M21 hM21 => (FL.bw hM21 (fun M22 hM22 => (FL.k (FL.b (fun x4_104 => (FL.c (fun r27 => (FL.k (FL.b (fun x5_125 => (lX3_choosePlan_b127 hih40 hM22)))))))))))))))))))
theorem lX3_choosePlan_l40_n {k0 : Nat} {k1 : Nat} : ∀ (n : Nat) (v0 : Int32) (v1 : Int32) (v2 : Int32) (v3 : Int32) (v4 : Int32) (v5 : Mem), KL M0 v5 → FL M0 (mX3_choosePlan_l40 k0 k1 n v0 v1 v2 v3 v4 v5) := by
  intro n
  induction n with
  | zero => intro v0 v1 v2 v3 v4 v5 h; exact FL.n
  | succ n IH => intro v0 v1 v2 v3 v4 v5 h; exact lX3_choosePlan_b40  IH h
theorem lX3_choosePlan_l40 {k0 : Nat} {k1 : Nat} {v0 : Int32} {v1 : Int32} {v2 : Int32} {v3 : Int32} {v4 : Int32} {v5 : Mem} {n : Nat} (h : KL M0 v5) : FL M0 (mX3_choosePlan_l40 k0 k1 n v0 v1 v2 v3 v4 v5) := lX3_choosePlan_l40_n   n v0 v1 v2 v3 v4 v5 h
theorem lX0_forgetAll {k0 : Nat} {M : Mem} (hM : KL M0 M) : FL M0 (mX0_forgetAll k0 M) := by
  unfold mX0_forgetAll
  exact (FL.bw hM (fun M1 hM1 => (FL.ok hM1)))
theorem lX0_remember_b32 {k0 : Nat} {k1 : Nat} {M : Mem} (hM : KL M0 M) : FL M0 (mX0_remember_b32 k0 k1 M) := by
  unfold mX0_remember_b32
  exact (FL.k (FL.m (lX1_copyFrom hM) (fun M5 _ hM5 => (FL.bw hM5 (fun M6 hM6 => (FL.ok hM6))))))
theorem lX0_remember {k0 : Nat} {k1 : Nat} {M : Mem} (hM : KL M0 M) : FL M0 (mX0_remember k0 k1 M) := by
  unfold mX0_remember
  exact (FL.i (FL.bw hM (fun M8 hM8 => (FL.bw hM8 (fun M10 hM10 => (lX0_remember_b32 hM10))))) (lX0_remember_b32 hM))
theorem lX0_takeBack {k0 : Nat} {k1 : Nat} {M : Mem} (hM : KL M0 M) : FL M0 (mX0_takeBack k0 k1 M) := by
  unfold mX0_takeBack
  exact (FL.i (FL.ok hM) (FL.bw hM (fun M2 hM2 => (FL.k (FL.m (lX1_copyFrom hM2) (fun M7 _ hM7 => (FL.ok hM7)))))))
theorem lX4_takeWord_b39 {k0 : Nat} {M : Mem} (hM : KL M0 M) : FL M0 (mX4_takeWord_b39 k0 M) := by
  unfold mX4_takeWord_b39
  exact (FL.i (FL.bw hM (fun M3 hM3 => (FL.ok hM3))) (FL.bw hM (fun M5 hM5 => (FL.ok hM5))))
theorem lX4_takeWord_b0 {k0 : Nat} {ih0 : Mem → Option (Mem × Unit)} {M : Mem} (hih0 : ∀ (v0 : Mem), KL M0 v0 → FL M0 (ih0 v0)) (hM : KL M0 M) : FL M0 (mX4_takeWord_b0 k0 ih0 M) := by
  unfold mX4_takeWord_b0
  exact (FL.i (lX4_takeWord_b39 hM) (FL.k (FL.k (FL.c (fun r10 => (FL.i (lX4_takeWord_b39 hM) (FL.bw hM (fun M13 hM13 => (hih0 _ hM13)))))))))
theorem lX4_takeWord_l0_n {k0 : Nat} : ∀ (n : Nat) (v0 : Mem), KL M0 v0 → FL M0 (mX4_takeWord_l0 k0 n v0) := by
  intro n
  induction n with
  | zero => intro v0 h; exact FL.n
  | succ n IH => intro v0 h; exact lX4_takeWord_b0  IH h
theorem lX4_takeWord_l0 {k0 : Nat} {v0 : Mem} {n : Nat} (h : KL M0 v0) : FL M0 (mX4_takeWord_l0 k0 n v0) := lX4_takeWord_l0_n   n v0 h
theorem lX4_takeWord {k0 : Nat} {M : Mem} (hM : KL M0 M) : FL M0 (mX4_takeWord k0 M) := by
  unfold mX4_takeWord
  exact (lX4_takeWord_l0 hM)
theorem lX4_takeNumber_b76 {k0 : Nat} {M : Mem} (hM : KL M0 M) : FL M0 (mX4_takeNumber_b76 k0 M) := by
  unfold mX4_takeNumber_b76
  exact (FL.i (FL.bw hM (fun M3 hM3 => (FL.ok hM3))) (FL.bw hM (fun M5 hM5 => (FL.ok hM5))))
theorem lX4_takeNumber_b63 {k0 : Nat} {ih0 : Mem → Option (Mem × Unit)} {M : Mem} (hih0 : ∀ (v0 : Mem), KL M0 v0 → FL M0 (ih0 v0)) (hM : KL M0 M) : FL M0 (mX4_takeNumber_b63 k0 ih0 M) := by
  unfold mX4_takeNumber_b63
  exact (FL.bw hM (fun M14 hM14 => (hih0 _ hM14)))
theorem lX4_takeNumber_b0 {k0 : Nat} {ih0 : Mem → Option (Mem × Unit)} {M : Mem} (hih0 : ∀ (v0 : Mem), KL M0 v0 → FL M0 (ih0 v0)) (hM : KL M0 M) : FL M0 (mX4_takeNumber_b0 k0 ih0 M) := by
  unfold mX4_takeNumber_b0
  exact (FL.i (lX4_takeNumber_b76 hM) (FL.k (FL.k (FL.c (fun r10 => (FL.i (lX4_takeNumber_b76 hM) (FL.i (lX4_takeNumber_b63 hih0 hM) (FL.k (FL.k (FL.bw hM (fun M18 hM18 => (lX4_takeNumber_b63 hih0 hM18))))))))))))
theorem lX4_takeNumber_l0_n {k0 : Nat} : ∀ (n : Nat) (v0 : Mem), KL M0 v0 → FL M0 (mX4_takeNumber_l0 k0 n v0) := by
  intro n
  induction n with
  | zero => intro v0 h; exact FL.n
  | succ n IH => intro v0 h; exact lX4_takeNumber_b0  IH h
theorem lX4_takeNumber_l0 {k0 : Nat} {v0 : Mem} {n : Nat} (h : KL M0 v0) : FL M0 (mX4_takeNumber_l0 k0 n v0) := lX4_takeNumber_l0_n   n v0 h
theorem lX4_takeNumber {k0 : Nat} {M : Mem} (hM : KL M0 M) : FL M0 (mX4_takeNumber k0 M) := by
  unfold mX4_takeNumber
  exact (lX4_takeNumber_l0 hM)
theorem lX4_nextToken_b143 {k0 : Nat} {y1 : Int32} {M : Mem} (hM : KL M0 M) : FL M0 (mX4_nextToken_b143 k0 y1 M) := by
  unfold mX4_nextToken_b143
  exact (FL.bw hM (fun M24 hM24 => (FL.bw hM24 (fun M26 hM26 => (FL.ok hM26)))))
theorem lX4_nextToken_b47 {k0 : Nat} {M : Mem} (hM : KL M0 M) : FL M0 (mX4_nextToken_b47 k0 M) := by
  unfold mX4_nextToken_b47
  exact (FL.bw hM (fun M4 hM4 => (FL.bw hM4 (fun M6 hM6 => (FL.i (FL.k (FL.k (FL.c (fun r12 => (FL.i (FL.k (FL.k (FL.c (fun r18 => (FL.i (FL.k (FL.k (FL.i (lX4_nextToken_b143 hM6) (lX4_nextToken_b143 hM6)))) (FL.m (lX4_takeNumber hM6) (fun M30 _ hM30 => (FL.ok hM30)))))))) (FL.m (lX4_takeWord hM6) (fun M33 _ hM33 => (FL.ok hM33)))))))) (FL.bw hM6 (fun M34 hM34 => (FL.ok hM34))))))))
theorem lX4_nextToken_b8 {k0 : Nat} {ih8 : Mem → Option (Mem × Unit)} {M : Mem} (hih8 : ∀ (v0 : Mem), KL M0 v0 → FL M0 (ih8 v0)) (hM : KL M0 M) : FL M0 (mX4_nextToken_b8 k0 ih8 M) := by
  unfold mX4_nextToken_b8
  exact (FL.i (lX4_nextToken_b47 hM) (FL.k (FL.k (FL.c (fun r39 => (FL.i (lX4_nextToken_b47 hM) (FL.bw hM (fun M42 hM42 => (hih8 _ hM42)))))))))
theorem lX4_nextToken_l8_n {k0 : Nat} : ∀ (n : Nat) (v0 : Mem), KL M0 v0 → FL M0 (mX4_nextToken_l8 k0 n v0) := by
  intro n
  induction n with
  | zero => intro v0 h; exact FL.n
  | succ n IH => intro v0 h; exact lX4_nextToken_b8  IH h
theorem lX4_nextToken_l8 {k0 : Nat} {v0 : Mem} {n : Nat} (h : KL M0 v0) : FL M0 (mX4_nextToken_l8 k0 n v0) := lX4_nextToken_l8_n   n v0 h
theorem lX4_nextToken {k0 : Nat} {M : Mem} (hM : KL M0 M) : FL M0 (mX4_nextToken k0 M) := by
  unfold mX4_nextToken
  exact (FL.bw hM (fun M1 hM1 => (lX4_nextToken_l8 hM1)))
theorem lX4_accept_b139 {k0 : Nat} {k1 : Nat} {k2 : Nat} {y1 : Int32} {y2 : Int32} {M : Mem} (hM : KL M0 M) : FL M0 (mX4_accept_b139 k0 k1 k2 y1 y2 M) := by
  unfold mX4_accept_b139
  exact (FL.m (lX1_addLeg hM) (fun M12 _ hM12 => (FL.ok hM12)))
theorem lX4_accept {k0 : Nat} {k1 : Nat} {k2 : Nat} {M : Mem} (hM : KL M0 M) : FL M0 (mX4_accept k0 k1 k2 M) := by
  unfold mX4_accept
  exact (FL.c (fun r2 => (FL.i (FL.i (FL.k (FL.k (FL.k (FL.m (lX1_putSheet hM) (fun M29 _ hM29 => (FL.ok hM29)))))) (FL.i (FL.k (FL.k (FL.k (FL.m (lX1_putCosts hM) (fun M23 _ hM23 => (FL.ok hM23)))))) (FL.i (FL.k (FL.k (FL.m (lX1_addBack hM) (fun M17 _ hM17 => (FL.ok hM17))))) (FL.k (FL.i (lX4_accept_b139 hM) (lX4_accept_b139 hM)))))) (FL.k (FL.k (FL.m (lX1_putTool hM) (fun M34 _ hM34 => (FL.ok hM34))))))))
theorem lX4_readStatement_b148 {k0 : Nat} {k1 : Nat} {x3 : Int32} {M : Mem} (hM : KL M0 M) : FL M0 (mX4_readStatement_b148 k0 k1 x3 M) := by
  unfold mX4_readStatement_b148
  exact (FL.bw hM (fun M8 hM8 => (FL.bw hM8 (fun M10 hM10 => (FL.ok hM10)))))
theorem lX4_readStatement_b131 {k0 : Nat} {k1 : Nat} {x3 : Int32} {M : Mem} (hM : KL M0 M) : FL M0 (mX4_readStatement_b131 k0 k1 x3 M) := by
  unfold mX4_readStatement_b131
  exact (FL.i (lX4_readStatement_b148 hM) (lX4_readStatement_b148 hM))
theorem lX4_readStatement_b110 {k0 : Nat} {k1 : Nat} {ih55 : Int32 → Int32 → Mem → Option (Mem × Unit)} {x3 : Int32} {x4 : Int32} {M : Mem} (hih55 : ∀ (v0 : Int32) (v1 : Int32) (v2 : Mem), KL M0 v2 → FL M0 (ih55 v0 v1 v2)) (hM : KL M0 M) : FL M0 (mX4_readStatement_b110 k0 k1 ih55 x3 x4 M) := by
  unfold mX4_readStatement_b110
  exact (FL.b (fun x4_110 => (hih55 _ _ _ hM)))
theorem lX4_readStatement_b55 {k0 : Nat} {k1 : Nat} {ih55 : Int32 → Int32 → Mem → Option (Mem × Unit)} {x3 : Int32} {x4 : Int32} {M : Mem} (hih55 : ∀ (v0 : Int32) (v1 : Int32) (v2 : Mem), KL M0 v2 → FL M0 (ih55 v0 v1 v2)) (hM : KL M0 M) : FL M0 (mX4_readStatement_b55 k0 k1 ih55 x3 x4 M) := by
  unfold mX4_readStatement_b55
  exact (FL.i (FL.i (FL.m (lX4_nextToken hM) (fun M14 _ hM14 => (FL.c (fun r16 => (lX4_readStatement_b131 hM14))))) (lX4_readStatement_b131 hM)) (FL.k (FL.bw hM (fun M20 hM20 => (FL.i (lX4_readStatement_b110 hih55 hM20) (lX4_readStatement_b110 hih55 hM20))))))
theorem lX4_readStatement_l55_n {k0 : Nat} {k1 : Nat} : ∀ (n : Nat) (v0 : Int32) (v1 : Int32) (v2 : Mem), KL M0 v2 → FL M0 (mX4_readStatement_l55 k0 k1 n v0 v1 v2) := by
  intro n
  induction n with
  | zero => intro v0 v1 v2 h; exact FL.n
  | succ n IH => intro v0 v1 v2 h; exact lX4_readStatement_b55  IH h
theorem lX4_readStatement_l55 {k0 : Nat} {k1 : Nat} {v0 : Int32} {v1 : Int32} {v2 : Mem} {n : Nat} (h : KL M0 v2) : FL M0 (mX4_readStatement_l55 k0 k1 n v0 v1 v2) := lX4_readStatement_l55_n   n v0 v1 v2 h
theorem lX4_readStatement_b51 {k0 : Nat} {k1 : Nat} {y0 : Int32} {M : Mem} (hM : KL M0 M) : FL M0 (mX4_readStatement_b51 k0 k1 y0 M) := by
  unfold mX4_readStatement_b51
  exact (lX4_readStatement_l55 hM)
theorem lX4_readStatement_b32 {k0 : Nat} {k1 : Nat} {M : Mem} (hM : KL M0 M) : FL M0 (mX4_readStatement_b32 k0 k1 M) := by
  unfold mX4_readStatement_b32
  exact (FL.c (fun r3 => (lX4_readStatement_b51 hM)))
theorem lX4_readStatement_b131v1 {k0 : Nat} {k1 : Nat} {w2 : Nat} {x3 : Int32} {M : Mem} (hM : KL M0 M) : FL M0 (mX4_readStatement_b131v1 k0 k1 w2 x3 M) := by
  unfold mX4_readStatement_b131v1
  exact (FL.i (FL.m (lX4_accept hM) (fun M37 _ hM37 => (FL.ok hM37))) (lX4_readStatement_b148 hM))
theorem lX4_readStatement_b110v1 {k0 : Nat} {k1 : Nat} {w2 : Nat} {ih55v1 : Int32 → Int32 → Mem → Option (Mem × Unit)} {x3 : Int32} {x4 : Int32} {M : Mem} (hih55v1 : ∀ (v0 : Int32) (v1 : Int32) (v2 : Mem), KL M0 v2 → FL M0 (ih55v1 v0 v1 v2)) (hM : KL M0 M) : FL M0 (mX4_readStatement_b110v1 k0 k1 w2 ih55v1 x3 x4 M) := by
  unfold mX4_readStatement_b110v1
  exact (FL.b (fun x4_110 => (hih55v1 _ _ _ hM)))
theorem lX4_readStatement_b55v1 {k0 : Nat} {k1 : Nat} {w2 : Nat} {ih55v1 : Int32 → Int32 → Mem → Option (Mem × Unit)} {x3 : Int32} {x4 : Int32} {M : Mem} (hih55v1 : ∀ (v0 : Int32) (v1 : Int32) (v2 : Mem), KL M0 v2 → FL M0 (ih55v1 v0 v1 v2)) (hM : KL M0 M) : FL M0 (mX4_readStatement_b55v1 k0 k1 w2 ih55v1 x3 x4 M) := by
  unfold mX4_readStatement_b55v1
  exact (FL.i (FL.i (FL.m (lX4_nextToken hM) (fun M40 _ hM40 => (FL.c (fun r42 => (lX4_readStatement_b131v1 hM40))))) (lX4_readStatement_b131v1 hM)) (FL.k (FL.bw hM (fun M46 hM46 => (FL.i (FL.c (fun r50 => (FL.i (lX4_readStatement_b110v1 hih55v1 hM46) (FL.m (lX4_nextToken hM46) (fun M55 _ hM55 => (FL.c (fun r57 => (FL.k (FL.bw hM55 (fun M61 hM61 => (lX4_readStatement_b110v1 hih55v1 hM61))))))))))) (lX4_readStatement_b110v1 hih55v1 hM46))))))
theorem lX4_readStatement_l55v1_n {k0 : Nat} {k1 : Nat} {w2 : Nat} : ∀ (n : Nat) (v0 : Int32) (v1 : Int32) (v2 : Mem), KL M0 v2 → FL M0 (mX4_readStatement_l55v1 k0 k1 w2 n v0 v1 v2) := by
  intro n
  induction n with
  | zero => intro v0 v1 v2 h; exact FL.n
  | succ n IH => intro v0 v1 v2 h; exact lX4_readStatement_b55v1  IH h
theorem lX4_readStatement_l55v1 {k0 : Nat} {k1 : Nat} {w2 : Nat} {v0 : Int32} {v1 : Int32} {v2 : Mem} {n : Nat} (h : KL M0 v2) : FL M0 (mX4_readStatement_l55v1 k0 k1 w2 n v0 v1 v2) := lX4_readStatement_l55v1_n   n v0 v1 v2 h
theorem lX4_readStatement_b51v1 {k0 : Nat} {k1 : Nat} {w2 : Nat} {y0 : Int32} {M : Mem} (hM : KL M0 M) : FL M0 (mX4_readStatement_b51v1 k0 k1 w2 y0 M) := by
  unfold mX4_readStatement_b51v1
  exact (lX4_readStatement_l55v1 hM)
theorem lX4_readStatement_b32v1 {k0 : Nat} {k1 : Nat} {ws0 : Nat} {M : Mem} (hM : KL M0 M) : FL M0 (mX4_readStatement_b32v1 k0 k1 ws0 M) := by
  unfold mX4_readStatement_b32v1
  exact (FL.c (fun r30 => (lX4_readStatement_b51v1 hM)))
theorem lX4_readStatement {k0 : Nat} {k1 : Nat} {M : Mem} (hM : KL M0 M) : FL M0 (mX4_readStatement k0 k1 M) := by
  unfold mX4_readStatement
  exact (FL.i (FL.k (FL.c (fun r25 => (FL.o (lX4_readStatement_b32 hM) (fun w27 => (FL.k (lX4_readStatement_b32v1 hM))))))) (lX4_readStatement_b32 hM))
theorem lX4_readText_b84 {k0 : Nat} {k1 : Nat} {k2 : Nat} {M : Mem} (hM : KL M0 M) : FL M0 (mX4_readText_b84 k0 k1 k2 M) := by
  unfold mX4_readText_b84
  exact (FL.i (FL.ok hM) (FL.ok hM))
theorem lX4_readText_b47 {k0 : Nat} {k1 : Nat} {k2 : Nat} {ih47 : Int32 → Mem → Option (Mem × Int32)} {x4 : Int32} {M : Mem} (hih47 : ∀ (v0 : Int32) (v1 : Mem), KL M0 v1 → FL M0 (ih47 v0 v1)) (hM : KL M0 M) : FL M0 (mX4_readText_b47 k0 k1 k2 ih47 x4 M) := by
  unfold mX4_readText_b47
  exact (FL.i (lX4_readText_b84 hM) (FL.i (lX4_readText_b84 hM) (FL.i (FL.m (lX4_readStatement hM) (fun M25 _ hM25 => (FL.m (lX4_nextToken hM25) (fun M28 _ hM28 => (FL.b (fun x4_78 => (hih47 _ _ hM28))))))) (lX4_readText_b84 hM))))
theorem lX4_readText_l47_n {k0 : Nat} {k1 : Nat} {k2 : Nat} : ∀ (n : Nat) (v0 : Int32) (v1 : Mem), KL M0 v1 → FL M0 (mX4_readText_l47 k0 k1 k2 n v0 v1) := by
  intro n
  induction n with
  | zero => intro v0 v1 h; exact FL.n
  | succ n IH => intro v0 v1 h; exact lX4_readText_b47  IH h
theorem lX4_readText_l47 {k0 : Nat} {k1 : Nat} {k2 : Nat} {v0 : Int32} {v1 : Mem} {n : Nat} (h : KL M0 v1) : FL M0 (mX4_readText_l47 k0 k1 k2 n v0 v1) := lX4_readText_l47_n   n v0 v1 h
theorem lX4_readText_b18 {k0 : Nat} {k1 : Nat} {k2 : Nat} {y1 : Int32} {M : Mem} (hM : KL M0 M) : FL M0 (mX4_readText_b18 k0 k1 k2 y1 M) := by
  unfold mX4_readText_b18
  exact (FL.bw hM (fun M5 hM5 => (FL.bw hM5 (fun M7 hM7 => (FL.bw hM7 (fun M9 hM9 => (FL.bw hM9 (fun M11 hM11 => (FL.m (lX1_clear hM11) (fun M15 _ hM15 => (FL.m (lX4_nextToken hM15) (fun M18 _ hM18 => (lX4_readText_l47 hM18)))))))))))))
theorem lX4_readText {k0 : Nat} {k1 : Nat} {k2 : Nat} {x2 : Int32} {M : Mem} (hM : KL M0 M) : FL M0 (mX4_readText k0 k1 k2 x2 M) := by
  unfold mX4_readText
  exact (FL.k (FL.bw hM (fun M1 hM1 => (FL.i (lX4_readText_b18 hM1) (lX4_readText_b18 hM1)))))
theorem lX6_append_b40 {k0 : Nat} {ih3 : Int32 → Int32 → Mem → Option (Mem × Unit)} {x1 : Int32} {x2 : Int32} {M : Mem} (hih3 : ∀ (v0 : Int32) (v1 : Int32) (v2 : Mem), KL M0 v2 → FL M0 (ih3 v0 v1 v2)) (hM : KL M0 M) : FL M0 (mX6_append_b40 k0 ih3 x1 x2 M) := by
  unfold mX6_append_b40
  exact (FL.b (fun x2_40 => (hih3 _ _ _ hM)))
theorem lX6_append_b3 {k0 : Nat} {ih3 : Int32 → Int32 → Mem → Option (Mem × Unit)} {x1 : Int32} {x2 : Int32} {M : Mem} (hih3 : ∀ (v0 : Int32) (v1 : Int32) (v2 : Mem), KL M0 v2 → FL M0 (ih3 v0 v1 v2)) (hM : KL M0 M) : FL M0 (mX6_append_b3 k0 ih3 x1 x2 M) := by
  unfold mX6_append_b3
  exact (FL.i (FL.ok hM) (FL.i (lX6_append_b40 hih3 hM) (FL.k (FL.bw hM (fun M6 hM6 => (FL.bw hM6 (fun M7 hM7 => (lX6_append_b40 hih3 hM7))))))))
theorem lX6_append_l3_n {k0 : Nat} : ∀ (n : Nat) (v0 : Int32) (v1 : Int32) (v2 : Mem), KL M0 v2 → FL M0 (mX6_append_l3 k0 n v0 v1 v2) := by
  intro n
  induction n with
  | zero => intro v0 v1 v2 h; exact FL.n
  | succ n IH => intro v0 v1 v2 h; exact lX6_append_b3  IH h
theorem lX6_append_l3 {k0 : Nat} {v0 : Int32} {v1 : Int32} {v2 : Mem} {n : Nat} (h : KL M0 v2) : FL M0 (mX6_append_l3 k0 n v0 v1 v2) := lX6_append_l3_n   n v0 v1 v2 h
theorem lX6_append {k0 : Nat} {x1 : Int32} {M : Mem} (hM : KL M0 M) : FL M0 (mX6_append k0 x1 M) := by
  unfold mX6_append
  exact (lX6_append_l3 hM)
theorem lX6_feed {k0 : Nat} {x1 : Int32} {x2 : Int32} {x3 : Int32} {x4 : Int32} {x5 : Int32} {M : Mem} (hM : KL M0 M) : FL M0 (mX6_feed k0 x1 x2 x3 x4 x5 M) := by
  unfold mX6_feed
  exact (FL.i (FL.m (lX6_append hM) (fun M4 _ hM4 => (FL.m (lX6_append hM4) (fun M7 _ hM7 => (FL.m (lX6_append hM7) (fun M10 _ hM10 => (FL.m (lX6_append hM10) (fun M13 _ hM13 => (FL.m (lX6_append hM13) (fun M16 _ hM16 => (FL.ok hM16))))))))))) (FL.ok hM))
theorem lX6_load_b12 {k0 : Nat} {M : Mem} (hM : KL M0 M) : FL M0 (mX6_load_b12 k0 M) := by
  unfold mX6_load_b12
  exact (FL.ok hM)
theorem lX6_load {k0 : Nat} {x1 : Int32} {M : Mem} (hM : KL M0 M) : FL M0 (mX6_load k0 x1 M) := by
  unfold mX6_load
  exact (FL.i (lX6_load_b12 hM) (FL.i (FL.bw hM (fun M3 hM3 => (FL.m (lX4_readText hM3) (fun M7 r6 hM7 => (FL.i (FL.ok hM7) (FL.m (lX1_copyFrom hM7) (fun M11 _ hM11 => (FL.m (lX0_forgetAll hM11) (fun M14 _ hM14 => (FL.c (fun r16 => (FL.ok hM14)))))))))))) (lX6_load_b12 hM)))
theorem lX6_requireLeg_b21 {k0 : Nat} {M : Mem} (hM : KL M0 M) : FL M0 (mX6_requireLeg_b21 k0 M) := by
  unfold mX6_requireLeg_b21
  exact (FL.ok hM)
theorem lX6_requireLeg {k0 : Nat} {x1 : Int32} {M : Mem} (hM : KL M0 M) : FL M0 (mX6_requireLeg k0 x1 M) := by
  unfold mX6_requireLeg
  exact (FL.i (lX6_requireLeg_b21 hM) (FL.i (lX6_requireLeg_b21 hM) (FL.i (FL.ok hM) (lX6_requireLeg_b21 hM))))
theorem lX6_leg {k0 : Nat} {x1 : Int32} {M : Mem} (hM : KL M0 M) : FL M0 (mX6_leg k0 x1 M) := by
  unfold mX6_leg
  exact (FL.x (lX6_requireLeg hM) (fun M3 _ hM3 => (FL.k (FL.ok hM3))))
theorem lX6_requireBend_b21 {k0 : Nat} {M : Mem} (hM : KL M0 M) : FL M0 (mX6_requireBend_b21 k0 M) := by
  unfold mX6_requireBend_b21
  exact (FL.ok hM)
theorem lX6_requireBend {k0 : Nat} {x1 : Int32} {M : Mem} (hM : KL M0 M) : FL M0 (mX6_requireBend k0 x1 M) := by
  unfold mX6_requireBend
  exact (FL.i (lX6_requireBend_b21 hM) (FL.c (fun r3 => (FL.i (lX6_requireBend_b21 hM) (FL.i (FL.ok hM) (lX6_requireBend_b21 hM))))))
theorem lX6_isUp {k0 : Nat} {x1 : Int32} {M : Mem} (hM : KL M0 M) : FL M0 (mX6_isUp k0 x1 M) := by
  unfold mX6_isUp
  exact (FL.x (lX6_requireBend hM) (fun M3 _ hM3 => (FL.c (fun r6 => (FL.k (FL.ok hM3))))))
theorem lX6_linePlace {k0 : Nat} {x1 : Int32} {M : Mem} (hM : KL M0 M) : FL M0 (mX6_linePlace k0 x1 M) := by
  unfold mX6_linePlace
  exact (FL.x (lX6_requireBend hM) (fun M3 _ hM3 => (FL.c (fun r6 => (FL.k (FL.c (fun r10 => (FL.k (FL.k (FL.ok hM3))))))))))
theorem lX6_springBackFor_b19 {k0 : Nat} {x1 : UInt64} {y0 : Int32} {M : Mem} (hM : KL M0 M) : FL M0 (mX6_springBackFor_b19 k0 x1 y0 M) := by
  unfold mX6_springBackFor_b19
  exact (FL.i (FL.ok hM) (FL.c (fun r4 => (FL.ok hM))))
theorem lX6_springBackFor_b18 {k0 : Nat} {x1 : UInt64} {M : Mem} (hM : KL M0 M) : FL M0 (mX6_springBackFor_b18 k0 x1 M) := by
  unfold mX6_springBackFor_b18
  exact (lX6_springBackFor_b19 hM)
theorem lX6_springBackFor {k0 : Nat} {x1 : UInt64} {M : Mem} (hM : KL M0 M) : FL M0 (mX6_springBackFor k0 x1 M) := by
  unfold mX6_springBackFor
  exact (FL.i (lX6_springBackFor_b18 hM) (FL.i (lX6_springBackFor_b18 hM) (lX6_springBackFor_b19 hM)))
theorem lX6_tool_b21 {k0 : Nat} {M : Mem} (hM : KL M0 M) : FL M0 (mX6_tool_b21 k0 M) := by
  unfold mX6_tool_b21
  exact (FL.ok hM)
theorem lX6_tool {k0 : Nat} {x1 : Int32} {x2 : Int32} {M : Mem} (hM : KL M0 M) : FL M0 (mX6_tool k0 x1 x2 M) := by
  unfold mX6_tool
  exact (FL.c (fun r2 => (FL.o (lX6_tool_b21 hM) (fun w4 => (FL.k (FL.i (lX6_tool_b21 hM) (FL.c (fun r8 => (FL.i (FL.k (FL.ok hM)) (lX6_tool_b21 hM))))))))))
theorem lX6_finishedWidth {k0 : Nat} {M : Mem} (hM : KL M0 M) : FL M0 (mX6_finishedWidth k0 M) := by
  unfold mX6_finishedWidth
  exact (FL.m (lX2_layFinished hM) (fun M3 _ hM3 => (FL.c (fun r5 => (FL.ok hM3)))))
theorem lX6_finishedHeight {k0 : Nat} {M : Mem} (hM : KL M0 M) : FL M0 (mX6_finishedHeight k0 M) := by
  unfold mX6_finishedHeight
  exact (FL.m (lX2_layFinished hM) (fun M3 _ hM3 => (FL.c (fun r5 => (FL.ok hM3)))))
theorem lX6_isFinishedCrossed {k0 : Nat} {M : Mem} (hM : KL M0 M) : FL M0 (mX6_isFinishedCrossed k0 M) := by
  unfold mX6_isFinishedCrossed
  exact (FL.m (lX2_layFinished hM) (fun M3 _ hM3 => (FL.c (fun r5 => (FL.k (FL.ok hM3))))))
theorem lX6_requireChoice_b9 {M : Mem} (hM : KL M0 M) : FL M0 (mX6_requireChoice_b9 M) := by
  unfold mX6_requireChoice_b9
  exact (FL.ok hM)
theorem lX6_requireChoice {x0 : Int32} {x1 : Int32} {M : Mem} (hM : KL M0 M) : FL M0 (mX6_requireChoice x0 x1 M) := by
  unfold mX6_requireChoice
  exact (FL.i (lX6_requireChoice_b9 hM) (FL.i (FL.ok hM) (lX6_requireChoice_b9 hM)))
theorem lX6_finishedCorner {k0 : Nat} {x1 : Int32} {x2 : Int32} {M : Mem} (hM : KL M0 M) : FL M0 (mX6_finishedCorner k0 x1 x2 M) := by
  unfold mX6_finishedCorner
  exact (FL.x (lX6_requireLeg hM) (fun M3 _ hM3 => (FL.x (lX6_requireChoice hM3) (fun M7 _ hM7 => (FL.m (lX2_layFinished hM7) (fun M11 _ hM11 => (FL.i (FL.k (FL.ok hM11)) (FL.k (FL.ok hM11)))))))))
theorem lX6_step_b21 {k0 : Nat} {M : Mem} (hM : KL M0 M) : FL M0 (mX6_step_b21 k0 M) := by
  unfold mX6_step_b21
  exact (FL.ok hM)
theorem lX6_step {k0 : Nat} {x1 : Int32} {x2 : Int32} {M : Mem} (hM : KL M0 M) : FL M0 (mX6_step k0 x1 x2 M) := by
  unfold mX6_step
  exact (FL.i (lX6_step_b21 hM) (FL.i (lX6_step_b21 hM) (FL.i (FL.x (lX6_requireChoice hM) (fun M6 _ hM6 => (FL.i (FL.k (FL.ok hM6)) (FL.i (FL.k (FL.ok hM6)) (FL.i (FL.k (FL.ok hM6)) (FL.k (FL.ok hM6))))))) (lX6_step_b21 hM))))
theorem lX6_requireStep {k0 : Nat} {x1 : Int32} {x2 : Int32} {M : Mem} (hM : KL M0 M) : FL M0 (mX6_requireStep k0 x1 x2 M) := by
  unfold mX6_requireStep
  exact (FL.x (lX6_requireBend hM) (fun M3 _ hM3 => (FL.x (lX6_requireChoice hM3) (fun M7 _ hM7 => (FL.ok hM7)))))
theorem lX6_reasonNow {k0 : Nat} {x1 : Int32} {M : Mem} (hM : KL M0 M) : FL M0 (mX6_reasonNow k0 x1 M) := by
  unfold mX6_reasonNow
  exact (FL.m (lX2_reasonFor hM) (fun M3 r2 hM3 => (FL.ok hM3)))
theorem lX6_gaugeNow {k0 : Nat} {x1 : Int32} {M : Mem} (hM : KL M0 M) : FL M0 (mX6_gaugeNow k0 x1 M) := by
  unfold mX6_gaugeNow
  exact (FL.m (lX2_layStep hM) (fun M3 _ hM3 => (FL.c (fun r5 => (FL.ok hM3)))))
theorem lX6_corner {k0 : Nat} {x1 : Int32} {x2 : Int32} {x3 : Int32} {x4 : Int32} {M : Mem} (hM : KL M0 M) : FL M0 (mX6_corner k0 x1 x2 x3 x4 M) := by
  unfold mX6_corner
  exact (FL.x (lX6_requireBend hM) (fun M3 _ hM3 => (FL.x (lX6_requireLeg hM3) (fun M7 _ hM7 => (FL.x (lX6_requireChoice hM7) (fun M11 _ hM11 => (FL.x (lX6_requireChoice hM11) (fun M15 _ hM15 => (FL.m (lX2_layStep hM15) (fun M19 _ hM19 => (FL.i (FL.k (FL.ok hM19)) (FL.k (FL.ok hM19)))))))))))))
theorem lX6_top {k0 : Nat} {x1 : Int32} {x2 : Int32} {M : Mem} (hM : KL M0 M) : FL M0 (mX6_top k0 x1 x2 M) := by
  unfold mX6_top
  exact (FL.x (lX6_requireStep hM) (fun M3 _ hM3 => (FL.m (lX2_layStep hM3) (fun M7 _ hM7 => (FL.c (fun r9 => (FL.ok hM7)))))))
theorem lX6_hitting {k0 : Nat} {x1 : Int32} {x2 : Int32} {M : Mem} (hM : KL M0 M) : FL M0 (mX6_hitting k0 x1 x2 M) := by
  unfold mX6_hitting
  exact (FL.x (lX6_requireStep hM) (fun M3 _ hM3 => (FL.m (lX2_layStep hM3) (fun M7 _ hM7 => (FL.c (fun r9 => (FL.ok hM7)))))))
theorem lX6_refused_b11 {k0 : Nat} {M : Mem} (hM : KL M0 M) : FL M0 (mX6_refused_b11 k0 M) := by
  unfold mX6_refused_b11
  exact (FL.ok hM)
theorem lX6_refused_b50 {k0 : Nat} {ih25 : Int32 → Int32 → Int32 → Mem → Option (Mem × (Int32 ⊕ Nat))} {x1 : Int32} {x2 : Int32} {x3 : Int32} {M : Mem} (hih25 : ∀ (v0 : Int32) (v1 : Int32) (v2 : Int32) (v3 : Mem), KL M0 v3 → FL M0 (ih25 v0 v1 v2 v3)) (hM : KL M0 M) : FL M0 (mX6_refused_b50 k0 ih25 x1 x2 x3 M) := by
  unfold mX6_refused_b50
  exact (FL.b (fun x3_50 => (hih25 _ _ _ _ hM)))
theorem lX6_refused_b25 {k0 : Nat} {ih25 : Int32 → Int32 → Int32 → Mem → Option (Mem × (Int32 ⊕ Nat))} {x1 : Int32} {x2 : Int32} {x3 : Int32} {M : Mem} (hih25 : ∀ (v0 : Int32) (v1 : Int32) (v2 : Int32) (v3 : Mem), KL M0 v3 → FL M0 (ih25 v0 v1 v2 v3)) (hM : KL M0 M) : FL M0 (mX6_refused_b25 k0 ih25 x1 x2 x3 M) := by
  unfold mX6_refused_b25
  exact (FL.c (fun r4 => (FL.i (FL.ok hM) (FL.m (lX6_reasonNow hM) (fun M9 r8 hM9 => (FL.i (FL.b (fun x2_47 => (lX6_refused_b50 hih25 hM9))) (lX6_refused_b50 hih25 hM9)))))))
theorem lX6_refused_l25_n {k0 : Nat} : ∀ (n : Nat) (v0 : Int32) (v1 : Int32) (v2 : Int32) (v3 : Mem), KL M0 v3 → FL M0 (mX6_refused_l25 k0 n v0 v1 v2 v3) := by
  intro n
  induction n with
  | zero => intro v0 v1 v2 v3 h; exact FL.n
  | succ n IH => intro v0 v1 v2 v3 h; exact lX6_refused_b25  IH h
theorem lX6_refused_l25 {k0 : Nat} {v0 : Int32} {v1 : Int32} {v2 : Int32} {v3 : Mem} {n : Nat} (h : KL M0 v3) : FL M0 (mX6_refused_l25 k0 n v0 v1 v2 v3) := lX6_refused_l25_n   n v0 v1 v2 v3 h
theorem lX6_refused {k0 : Nat} {x1 : Int32} {M : Mem} (hM : KL M0 M) : FL M0 (mX6_refused k0 x1 M) := by
  unfold mX6_refused
  exact (FL.i (lX6_refused_b11 hM) (FL.i (lX6_refused_l25 hM) (lX6_refused_b11 hM)))
theorem lX6_possible {k0 : Nat} {M : Mem} (hM : KL M0 M) : FL M0 (mX6_possible k0 M) := by
  unfold mX6_possible
  exact (FL.m (lX2_possibleSteps hM) (fun M3 r2 hM3 => (FL.ok hM3)))
theorem lX6_stuck_b73 {k0 : Nat} {ih23 : Int32 → Int32 → Int32 → Mem → Option (Mem × Int32)} {x1 : Int32} {x2 : Int32} {x3 : Int32} {M : Mem} (hih23 : ∀ (v0 : Int32) (v1 : Int32) (v2 : Int32) (v3 : Mem), KL M0 v3 → FL M0 (ih23 v0 v1 v2 v3)) (hM : KL M0 M) : FL M0 (mX6_stuck_b73 k0 ih23 x1 x2 x3 M) := by
  unfold mX6_stuck_b73
  exact (FL.b (fun x3_73 => (hih23 _ _ _ _ hM)))
theorem lX6_stuck_b53 {k0 : Nat} {ih23 : Int32 → Int32 → Int32 → Mem → Option (Mem × Int32)} {x1 : Int32} {x2 : Int32} {x3 : Int32} {y0 : Int32} {M : Mem} (hih23 : ∀ (v0 : Int32) (v1 : Int32) (v2 : Int32) (v3 : Mem), KL M0 v3 → FL M0 (ih23 v0 v1 v2 v3)) (hM : KL M0 M) : FL M0 (mX6_stuck_b53 k0 ih23 x1 x2 x3 y0 M) := by
  unfold mX6_stuck_b53
  exact (FL.i (FL.i (FL.b (fun x2_70 => (lX6_stuck_b73 hih23 hM))) (lX6_stuck_b73 hih23 hM)) (lX6_stuck_b73 hih23 hM))
theorem lX6_stuck_b23 {k0 : Nat} {ih23 : Int32 → Int32 → Int32 → Mem → Option (Mem × Int32)} {x1 : Int32} {x2 : Int32} {x3 : Int32} {M : Mem} (hih23 : ∀ (v0 : Int32) (v1 : Int32) (v2 : Int32) (v3 : Mem), KL M0 v3 → FL M0 (ih23 v0 v1 v2 v3)) (hM : KL M0 M) : FL M0 (mX6_stuck_b23 k0 ih23 x1 x2 x3 M) := by
  unfold mX6_stuck_b23
  exact (FL.c (fun r5 => (FL.i (FL.ok hM) (FL.i (lX6_stuck_b53 hih23 hM) (lX6_stuck_b53 hih23 hM)))))
theorem lX6_stuck_l23_n {k0 : Nat} : ∀ (n : Nat) (v0 : Int32) (v1 : Int32) (v2 : Int32) (v3 : Mem), KL M0 v3 → FL M0 (mX6_stuck_l23 k0 n v0 v1 v2 v3) := by
  intro n
  induction n with
  | zero => intro v0 v1 v2 v3 h; exact FL.n
  | succ n IH => intro v0 v1 v2 v3 h; exact lX6_stuck_b23  IH h
theorem lX6_stuck_l23 {k0 : Nat} {v0 : Int32} {v1 : Int32} {v2 : Int32} {v3 : Mem} {n : Nat} (h : KL M0 v3) : FL M0 (mX6_stuck_l23 k0 n v0 v1 v2 v3) := lX6_stuck_l23_n   n v0 v1 v2 v3 h
theorem lX6_stuck {k0 : Nat} {M : Mem} (hM : KL M0 M) : FL M0 (mX6_stuck k0 M) := by
  unfold mX6_stuck
  exact (FL.m (lX2_possibleSteps hM) (fun M3 r2 hM3 => (lX6_stuck_l23 hM3)))
theorem lX6_costNow {k0 : Nat} {x1 : Int32} {M : Mem} (hM : KL M0 M) : FL M0 (mX6_costNow k0 x1 M) := by
  unfold mX6_costNow
  exact (FL.c (fun r2 => (FL.c (fun r5 => (FL.m (lX6_gaugeNow hM) (fun M9 r8 hM9 => (FL.c (fun r11 => (FL.ok hM9)))))))))
theorem lX6_unfold {k0 : Nat} {M : Mem} (hM : KL M0 M) : FL M0 (mX6_unfold k0 M) := by
  unfold mX6_unfold
  exact (FL.m (lX0_remember hM) (fun M3 _ hM3 => (FL.b (fun x1_18 => (FL.m (lX1_dropSteps hM3) (fun M7 _ hM7 => (FL.ok hM7)))))))
theorem lX6_undo {k0 : Nat} {M : Mem} (hM : KL M0 M) : FL M0 (mX6_undo k0 M) := by
  unfold mX6_undo
  exact (FL.m (lX0_takeBack hM) (fun M3 r2 hM3 => (FL.i (FL.ok hM3) (FL.ok hM3))))
theorem lJ6_getChars_ba4f3_b104 {k0 : Nat} {n0 : Nat} {x5 : Int32} {x6 : Int32} {M : Mem} (hM : KL M0 M) : FL M0 (mJ6_getChars_ba4f3_b104 k0 n0 x5 x6 M) := by
  unfold mJ6_getChars_ba4f3_b104
  exact (FL.i (FL.ok hM) (FL.b (fun x5_110 => (FL.k (FL.bw hM (fun M14 hM14 => (FL.ok hM14)))))))
theorem lJ6_getChars_ba4f3_b22 {k0 : Nat} {n0 : Nat} {ih22 : Int32 → Int32 → Int32 → Mem → Option (Mem × Int32)} {x0 : Int32} {x5 : Int32} {x6 : Int32} {M : Mem} (hih22 : ∀ (v0 : Int32) (v1 : Int32) (v2 : Int32) (v3 : Mem), KL M0 v3 → FL M0 (ih22 v0 v1 v2 v3)) (hM : KL M0 M) : FL M0 (mJ6_getChars_ba4f3_b22 k0 n0 ih22 x0 x5 x6 M) := by
  unfold mJ6_getChars_ba4f3_b22
  exact (FL.i (FL.b (fun x5_73 => (FL.k (FL.k (FL.bw hM (fun M8 hM8 => (FL.i (lJ6_getChars_ba4f3_b104 hM8) (FL.b (fun x5_92 => (FL.k (FL.k (FL.bw hM8 (fun M19 hM19 => (lJ6_getChars_ba4f3_b104 hM19)))))))))))))) (FL.b (fun x3_32 => (FL.b (fun x4_39 => (FL.b (fun x5_44 => (FL.k (FL.k (FL.bw hM (fun M26 hM26 => (FL.b (fun x5_57 => (FL.k (FL.k (FL.bw hM26 (fun M31 hM31 => (hih22 _ _ _ _ hM31))))))))))))))))))
theorem lJ6_getChars_ba4f3_l22_n {k0 : Nat} {n0 : Nat} : ∀ (n : Nat) (v0 : Int32) (v1 : Int32) (v2 : Int32) (v3 : Mem), KL M0 v3 → FL M0 (mJ6_getChars_ba4f3_l22 k0 n0 n v0 v1 v2 v3) := by
  intro n
  induction n with
  | zero => intro v0 v1 v2 v3 h; exact FL.n
  | succ n IH => intro v0 v1 v2 v3 h; exact lJ6_getChars_ba4f3_b22  IH h
theorem lJ6_getChars_ba4f3_l22 {k0 : Nat} {n0 : Nat} {v0 : Int32} {v1 : Int32} {v2 : Int32} {v3 : Mem} {n : Nat} (h : KL M0 v3) : FL M0 (mJ6_getChars_ba4f3_l22 k0 n0 n v0 v1 v2 v3) := lJ6_getChars_ba4f3_l22_n   n v0 v1 v2 v3 h
theorem lJ6_getChars_ba4f3_b12 {k0 : Nat} {n0 : Nat} {x0 : Int32} {x5 : Int32} {y0 : Int32} {M : Mem} (hM : KL M0 M) : FL M0 (mJ6_getChars_ba4f3_b12 k0 n0 x0 x5 y0 M) := by
  unfold mJ6_getChars_ba4f3_b12
  exact (FL.i (FL.b (fun x0_21 => (lJ6_getChars_ba4f3_l22 hM))) (lJ6_getChars_ba4f3_l22 hM))
theorem lJ6_getChars_ba4f3 {k0 : Nat} {n0 : Nat} {x0 : Int32} {x1 : Int32} {M : Mem} (hM : KL M0 M) : FL M0 (mJ6_getChars_ba4f3 k0 n0 x0 x1 M) := by
  unfold mJ6_getChars_ba4f3
  exact (FL.i (lJ6_getChars_ba4f3_b12 hM) (lJ6_getChars_ba4f3_b12 hM))
theorem lJ5_ensureCapacityInternal_d00df {x1 : Int32} {M : Mem} (hM : KL M0 M) : FL M0 (mJ5_ensureCapacityInternal_d00df x1 M) := by
  unfold mJ5_ensureCapacityInternal_d00df
  refine FL.b (fun x2_10 => FL.i (FL.ok hM) (FL.c (fun r6 => FL.k (FL.bw ?_ (fun M9 h9 => FL.ok h9)))))
  have e : 129 ≠ sbv 133 (rd M 133 0 + 1) := by
    unfold sbv
    split
    · omega
    · split <;> omega
  exact (zr_o (M := M) 129 e).2.1.trans hM
theorem lJ0_getBytes_840e7 {k0 : Nat} {k1 : Nat} {n1 : Nat} {x2 : Int32} {x3 : Int32} {M : Mem} (hM : KL M0 M) : FL M0 (mJ0_getBytes_840e7 k0 k1 n1 x2 x3 M) := by
  unfold mJ0_getBytes_840e7
  exact FL.c (fun r2 => FL.i (FL.k (show FL M0 (some (_, ())) from FL.ok hM)) FL.n)
theorem lJ5_putStringAt_47b60 {k0 : Nat} {x1 : Int32} {M : Mem} (hM : KL M0 M) : FL M0 (mJ5_putStringAt_47b60 k0 x1 M) := by
  unfold mJ5_putStringAt_47b60
  exact (FL.c (fun r2 => (FL.m (lJ0_getBytes_840e7 hM) (fun M7 _ hM7 => (FL.ok hM7)))))
theorem lJ5_append_3fe6f_b45 {g : Int32} {x1 : Int32} {M : Mem} (hM : KL M0 M) : FL M0 (mJ5_append_3fe6f_b45 g x1 M) := by
  unfold mJ5_append_3fe6f_b45
  exact (FL.k (FL.c (fun r10 => (FL.i (FL.k (FL.bw hM (fun M14 hM14 => FL.n))) FL.n))))
theorem lJ5_append_3fe6f {x1 : Int32} {M : Mem} (hM : KL M0 M) : FL M0 (mJ5_append_3fe6f x1 M) := by
  unfold mJ5_append_3fe6f
  exact (FL.m (lJ5_ensureCapacityInternal_d00df hM) (fun M3 _ hM3 => (FL.c (fun r5 => (FL.i (lJ5_append_3fe6f_b45 hM3) (FL.c (fun r17 => (FL.i (lJ5_append_3fe6f_b45 hM3) (FL.bw hM3 (fun M21 hM21 => (FL.k (FL.bw hM21 (fun M25 hM25 => (FL.k (FL.ok hM25)))))))))))))))
theorem lJ5_append_c97b9 {x1 : Int32} {M : Mem} (hM : KL M0 M) : FL M0 (mJ5_append_c97b9 x1 M) := by
  unfold mJ5_append_c97b9
  exact (FL.b (fun x2_4 => (FL.c (fun r3 => (FL.b (fun x3_11 => (FL.m (lJ5_ensureCapacityInternal_d00df hM) (fun M8 _ hM8 => (FL.c (fun r10 => (FL.i FL.n (FL.m (lJ6_getChars_ba4f3 hM8) (fun M17 r16 hM17 => (FL.bw hM17 (fun M18 hM18 => (FL.k (FL.ok hM18)))))))))))))))))
theorem lJ5_append_cf1ce {k0 : Nat} {M : Mem} (hM : KL M0 M) : FL M0 (mJ5_append_cf1ce k0 M) := by
  unfold mJ5_append_cf1ce
  exact (FL.c (fun r2 => (FL.m (lJ5_ensureCapacityInternal_d00df hM) (fun M6 _ hM6 => (FL.m (lJ5_putStringAt_47b60 hM6) (fun M9 _ hM9 => (FL.bw hM9 (fun M10 hM10 => (FL.k (FL.ok hM10))))))))))
theorem lJ4_append_cf468 {x1 : Int32} {M : Mem} (hM : KL M0 M) : FL M0 (mJ4_append_cf468 x1 M) := by
  unfold mJ4_append_cf468
  exact (FL.m (lJ5_append_3fe6f hM) (fun M3 _ hM3 => (FL.ok hM3)))
theorem lJ4_append_bf812 {x1 : Int32} {M : Mem} (hM : KL M0 M) : FL M0 (mJ4_append_bf812 x1 M) := by
  unfold mJ4_append_bf812
  exact (FL.m (lJ5_append_c97b9 hM) (fun M3 _ hM3 => (FL.ok hM3)))
theorem lJ4_append_15ec4 {k0 : Nat} {M : Mem} (hM : KL M0 M) : FL M0 (mJ4_append_15ec4 k0 M) := by
  unfold mJ4_append_15ec4
  exact (FL.m (lJ5_append_cf1ce hM) (fun M3 _ hM3 => (FL.ok hM3)))
theorem lJ5_setLength_d00df {x1 : Int32} {M : Mem} (hM : KL M0 M) : FL M0 (mJ5_setLength_d00df x1 M) := by
  unfold mJ5_setLength_d00df
  exact (FL.i (FL.m (lJ5_ensureCapacityInternal_d00df hM) (fun M4 _ hM4 => (FL.i (FL.i (FL.bw hM4 (fun M7 hM7 => (FL.k (FL.ok hM7)))) (FL.bw hM4 (fun M10 hM10 => (FL.bw hM10 (fun M12 hM12 => (FL.k (FL.ok hM12))))))) (FL.c (fun r16 => (FL.i FL.n FL.n)))))) FL.n)
theorem lJ4_setLength_d00df {x1 : Int32} {M : Mem} (hM : KL M0 M) : FL M0 (mJ4_setLength_d00df x1 M) := by
  unfold mJ4_setLength_d00df
  exact (FL.m (lJ5_setLength_d00df hM) (fun M3 _ hM3 => (FL.ok hM3)))
theorem lX6_writeBend_b22 {k0 : Nat} {g : Int32} {x1 : Int32} {y1 : Int32} {M : Mem} (hM : KL M0 M) : FL M0 (mX6_writeBend_b22 k0 g x1 y1 M) := by
  unfold mX6_writeBend_b22
  exact (FL.k (FL.m (lJ4_append_cf468 hM) (fun M8 _ hM8 => (FL.i (FL.ok hM8) (FL.m (lJ4_append_cf468 hM8) (fun M12 _ hM12 => (FL.ok hM12)))))))
theorem lX6_writeBend {k0 : Nat} {x1 : Int32} {M : Mem} (hM : KL M0 M) : FL M0 (mX6_writeBend k0 x1 M) := by
  unfold mX6_writeBend
  exact (FL.c (fun r2 => (FL.i (lX6_writeBend_b22 hM) (lX6_writeBend_b22 hM))))
theorem lX6_write_b97 {k0 : Nat} {g : Int32} {M : Mem} (hM : KL M0 M) : FL M0 (mX6_write_b97 k0 g M) := by
  unfold mX6_write_b97
  exact (FL.k (FL.c (fun r8 => (FL.k (FL.ok hM)))))
theorem lX6_write_b61 {k0 : Nat} {g : Int32} {M : Mem} (hM : KL M0 M) : FL M0 (mX6_write_b61 k0 g M) := by
  unfold mX6_write_b61
  exact (FL.i (lX6_write_b97 hM) (FL.k (FL.m (lJ4_append_15ec4 hM) (fun M14 _ hM14 => (FL.c (fun r16 => (FL.m (lJ4_append_bf812 hM14) (fun M20 _ hM20 => (lX6_write_b97 hM20)))))))))
theorem lX6_write_b38 {k0 : Nat} {g : Int32} {ih10 : Int32 → Int32 → Mem → Option (Mem × Int32)} {x1 : Int32} {M : Mem} (hih10 : ∀ (v0 : Int32) (v1 : Int32) (v2 : Mem), KL M0 v2 → FL M0 (ih10 v0 v1 v2)) (hM : KL M0 M) : FL M0 (mX6_write_b38 k0 g ih10 x1 M) := by
  unfold mX6_write_b38
  exact (FL.k (FL.k (FL.m (lJ4_append_bf812 hM) (fun M27 _ hM27 => (FL.b (fun x1_55 => (hih10 _ _ _ hM27)))))))
theorem lX6_write_b10 {k0 : Nat} {g : Int32} {ih10 : Int32 → Int32 → Mem → Option (Mem × Int32)} {x1 : Int32} {M : Mem} (hih10 : ∀ (v0 : Int32) (v1 : Int32) (v2 : Mem), KL M0 v2 → FL M0 (ih10 v0 v1 v2)) (hM : KL M0 M) : FL M0 (mX6_write_b10 k0 g ih10 x1 M) := by
  unfold mX6_write_b10
  exact (FL.k (FL.i (lX6_write_b61 hM) (FL.i (lX6_write_b61 hM) (FL.i (lX6_write_b38 hih10 hM) (FL.k (FL.m (lX6_writeBend hM) (fun M32 _ hM32 => (lX6_write_b38 hih10 hM32))))))))
theorem lX6_write_l10_n {k0 : Nat} : ∀ (n : Nat) (v0 : Int32) (v1 : Int32) (v2 : Mem), KL M0 v2 → FL M0 (mX6_write_l10 k0 n v0 v1 v2) := by
  intro n
  induction n with
  | zero => intro v0 v1 v2 h; exact FL.n
  | succ n IH => intro v0 v1 v2 h; exact lX6_write_b10 IH h
theorem lX6_write_l10 {k0 : Nat} {v0 : Int32} {v1 : Int32} {v2 : Mem} {n : Nat} (h : KL M0 v2) : FL M0 (mX6_write_l10 k0 n v0 v1 v2) := lX6_write_l10_n n v0 v1 v2 h
theorem lX6_write {k0 : Nat} {M : Mem} (hM : KL M0 M) : FL M0 (mX6_write k0 M) := by
  unfold mX6_write
  exact (FL.m (lJ4_setLength_d00df hM) (fun M3 _ hM3 => (lX6_write_l10 hM3)))
theorem lX6_written_b15 {k0 : Nat} {g : Int32} {M : Mem} (hM : KL M0 M) : FL M0 (mX6_written_b15 k0 g M) := by
  unfold mX6_written_b15
  exact (FL.ok hM)
theorem lX6_written {k0 : Nat} {x1 : Int32} {M : Mem} (hM : KL M0 M) : FL M0 (mX6_written k0 x1 M) := by
  unfold mX6_written
  exact (FL.i (lX6_written_b15 hM) (FL.c (fun r3 => (FL.i (FL.c (fun r7 => (FL.k (FL.ok hM)))) (lX6_written_b15 hM)))))
end FFlng
end
/-! part 60zz0a.flay -/
section
/-! what laying writes (printed) -/
def SLy (k j : Nat) : Prop := (k = 135 ∧ (j = 21 ∨ j = 22)) ∨ (141 ≤ k ∧ k ≤ 150)
section FFlay
variable {M0 : Mem}
theorem vX7_layLeg {x1 : Int32} {x2 : Int32} {M : Mem} (hM : KS SLy M0 M) : Fr SLy M0 (mX7_layLeg 135 x1 x2 M) := by
  unfold mX7_layLeg
  exact (Fr.k (Fr.bw (Or.inr ⟨by decide, by decide⟩) hM (fun M3 hM3 => (Fr.k (Fr.bw (Or.inr ⟨by decide, by decide⟩) hM3 (fun M6 hM6 => (Fr.c (fun r8 => (Fr.k (Fr.bw (Or.inl ⟨rfl, by decide⟩) hM6 (fun M11 hM11 => (Fr.c (fun r14 => (Fr.k (Fr.bw (Or.inl ⟨rfl, by decide⟩) hM11 (fun M17 hM17 => (Fr.k (Fr.bw (Or.inr ⟨by decide, by decide⟩) hM17 (fun M21 hM21 => (Fr.k (Fr.bw (Or.inr ⟨by decide, by decide⟩) hM21 (fun M24 hM24 => (Fr.ok hM24)))))))))))))))))))))))
theorem vX7_laySide_b136 {ih16 : Int32 → Int32 → Int32 → Int32 → Int32 → Int32 → Mem → Option (Mem × Unit)} {x2 : Int32} {x4 : Int32} {x5 : Int32} {x6 : Int32} {x7 : Int32} {x8 : Int32} {M : Mem} (hih16 : ∀ (v0 : Int32) (v1 : Int32) (v2 : Int32) (v3 : Int32) (v4 : Int32) (v5 : Int32) (v6 : Mem), KS SLy M0 v6 → Fr SLy M0 (ih16 v0 v1 v2 v3 v4 v5 v6)) (hM : KS SLy M0 M) : Fr SLy M0 (mX7_laySide_b136 135 ih16 x2 x4 x5 x6 x7 x8 M) := by
  unfold mX7_laySide_b136
  exact (Fr.b (fun x8_140 => (hih16 _ _ _ _ _ _ _ hM)))
theorem vX7_laySide_b131 {ih16 : Int32 → Int32 → Int32 → Int32 → Int32 → Int32 → Mem → Option (Mem × Unit)} {x2 : Int32} {x4 : Int32} {x5 : Int32} {x6 : Int32} {x8 : Int32} {y0 : Int32} {y1 : Int32} {M : Mem} (hih16 : ∀ (v0 : Int32) (v1 : Int32) (v2 : Int32) (v3 : Int32) (v4 : Int32) (v5 : Int32) (v6 : Mem), KS SLy M0 v6 → Fr SLy M0 (ih16 v0 v1 v2 v3 v4 v5 v6)) (hM : KS SLy M0 M) : Fr SLy M0 (mX7_laySide_b131 135 ih16 x2 x4 x5 x6 x8 y0 y1 M) := by
  unfold mX7_laySide_b131
  exact (Fr.b (fun x7_134 => (vX7_laySide_b136 hih16 hM)))
theorem vX7_laySide_b113 {ih16 : Int32 → Int32 → Int32 → Int32 → Int32 → Int32 → Mem → Option (Mem × Unit)} {x2 : Int32} {x4 : Int32} {x5 : Int32} {x6 : Int32} {x7 : Int32} {x8 : Int32} {y0 : Int32} {M : Mem} (hih16 : ∀ (v0 : Int32) (v1 : Int32) (v2 : Int32) (v3 : Int32) (v4 : Int32) (v5 : Int32) (v6 : Mem), KS SLy M0 v6 → Fr SLy M0 (ih16 v0 v1 v2 v3 v4 v5 v6)) (hM : KS SLy M0 M) : Fr SLy M0 (mX7_laySide_b113 135 ih16 x2 x4 x5 x6 x7 x8 y0 M) := by
  unfold mX7_laySide_b113
  exact (Fr.i (vX7_laySide_b131 hih16 hM) (vX7_laySide_b131 hih16 hM))
theorem vX7_laySide_b103 {ih16 : Int32 → Int32 → Int32 → Int32 → Int32 → Int32 → Mem → Option (Mem × Unit)} {x2 : Int32} {x4 : Int32} {x5 : Int32} {x6 : Int32} {x7 : Int32} {x8 : Int32} {y0 : Int32} {M : Mem} (hih16 : ∀ (v0 : Int32) (v1 : Int32) (v2 : Int32) (v3 : Int32) (v4 : Int32) (v5 : Int32) (v6 : Mem), KS SLy M0 v6 → Fr SLy M0 (ih16 v0 v1 v2 v3 v4 v5 v6)) (hM : KS SLy M0 M) : Fr SLy M0 (mX7_laySide_b103 135 ih16 x2 x4 x5 x6 x7 x8 y0 M) := by
  unfold mX7_laySide_b103
  exact (Fr.i (vX7_laySide_b113 hih16 hM) (vX7_laySide_b113 hih16 hM))
theorem vX7_laySide_b53 {ih16 : Int32 → Int32 → Int32 → Int32 → Int32 → Int32 → Mem → Option (Mem × Unit)} {x2 : Int32} {x4 : Int32} {x5 : Int32} {x6 : Int32} {x7 : Int32} {x8 : Int32} {y0 : Int32} {M : Mem} (hih16 : ∀ (v0 : Int32) (v1 : Int32) (v2 : Int32) (v3 : Int32) (v4 : Int32) (v5 : Int32) (v6 : Mem), KS SLy M0 v6 → Fr SLy M0 (ih16 v0 v1 v2 v3 v4 v5 v6)) (hM : KS SLy M0 M) : Fr SLy M0 (mX7_laySide_b53 135 ih16 x2 x4 x5 x6 x7 x8 y0 M) := by
  unfold mX7_laySide_b53
  exact (Fr.k (Fr.c (fun r14 => (Fr.i (vX7_laySide_b136 hih16 hM) (Fr.c (fun r19 => (Fr.i (vX7_laySide_b136 hih16 hM) (Fr.k (Fr.i (vX7_laySide_b103 hih16 hM) (vX7_laySide_b103 hih16 hM))))))))))
theorem vX7_laySide_b16 {ih16 : Int32 → Int32 → Int32 → Int32 → Int32 → Int32 → Mem → Option (Mem × Unit)} {x2 : Int32} {x4 : Int32} {x5 : Int32} {x6 : Int32} {x7 : Int32} {x8 : Int32} {M : Mem} (hih16 : ∀ (v0 : Int32) (v1 : Int32) (v2 : Int32) (v3 : Int32) (v4 : Int32) (v5 : Int32) (v6 : Mem), KS SLy M0 v6 → Fr SLy M0 (ih16 v0 v1 v2 v3 v4 v5 v6)) (hM : KS SLy M0 M) : Fr SLy M0 (mX7_laySide_b16 135 ih16 x2 x4 x5 x6 x7 x8 M) := by
  unfold mX7_laySide_b16
  exact (Fr.i (Fr.ok hM) (Fr.k (Fr.i (Fr.ok hM) (Fr.m (vX7_layLeg hM) (fun M10 _ hM10 => (Fr.i (vX7_laySide_b53 hih16 hM10) (vX7_laySide_b53 hih16 hM10)))))))
theorem vX7_laySide_l16_n  : ∀ (n : Nat) (v0 : Int32) (v1 : Int32) (v2 : Int32) (v3 : Int32) (v4 : Int32) (v5 : Int32) (v6 : Mem), KS SLy M0 v6 → Fr SLy M0 (mX7_laySide_l16 135 n v0 v1 v2 v3 v4 v5 v6) := by
  intro n
  induction n with
  | zero => intro v0 v1 v2 v3 v4 v5 v6 h; exact Fr.n
  | succ n IH => intro v0 v1 v2 v3 v4 v5 v6 h; exact vX7_laySide_b16  IH h
theorem vX7_laySide_l16  {v0 : Int32} {v1 : Int32} {v2 : Int32} {v3 : Int32} {v4 : Int32} {v5 : Int32} {v6 : Mem} {n : Nat} (h : KS SLy M0 v6) : Fr SLy M0 (mX7_laySide_l16 135 n v0 v1 v2 v3 v4 v5 v6) := vX7_laySide_l16_n   n v0 v1 v2 v3 v4 v5 v6 h
theorem vX7_laySide {x1 : Int32} {x2 : Int32} {x3 : Int32} {x4 : Int32} {x5 : Int32} {x6 : Int32} {M : Mem} (hM : KS SLy M0 M) : Fr SLy M0 (mX7_laySide 135 x1 x2 x3 x4 x5 x6 M) := by
  unfold mX7_laySide
  exact (Fr.bw (Or.inl ⟨rfl, by decide⟩) hM (fun M1 hM1 => (Fr.bw (Or.inl ⟨rfl, by decide⟩) hM1 (fun M3 hM3 => (vX7_laySide_l16 hM3)))))
theorem vX7_laySheet_b69 {x3 : Int32} {x4 : Int32} {y1 : Int32} {y2 : Int32} {y3 : Int32} {y4 : Int32} {M : Mem} (hM : KS SLy M0 M) : Fr SLy M0 (mX7_laySheet_b69 135 x3 x4 y1 y2 y3 y4 M) := by
  unfold mX7_laySheet_b69
  exact (Fr.m (vX7_laySide hM) (fun M12 _ hM12 => (Fr.ok hM12)))
theorem vX7_laySheet_b60 {x2 : Int32} {x3 : Int32} {x4 : Int32} {y1 : Int32} {y2 : Int32} {y3 : Int32} {M : Mem} (hM : KS SLy M0 M) : Fr SLy M0 (mX7_laySheet_b60 135 x2 x3 x4 y1 y2 y3 M) := by
  unfold mX7_laySheet_b60
  exact (Fr.i (vX7_laySheet_b69 hM) (vX7_laySheet_b69 hM))
theorem vX7_laySheet_b40 {x1 : Int32} {x2 : Int32} {x3 : Int32} {x4 : Int32} {y1 : Int32} {y2 : Int32} {y3 : Int32} {y4 : Int32} {M : Mem} (hM : KS SLy M0 M) : Fr SLy M0 (mX7_laySheet_b40 135 x1 x2 x3 x4 y1 y2 y3 y4 M) := by
  unfold mX7_laySheet_b40
  exact (Fr.m (vX7_laySide hM) (fun M7 _ hM7 => (Fr.i (vX7_laySheet_b60 hM7) (vX7_laySheet_b60 hM7))))
theorem vX7_laySheet_b31 {x1 : Int32} {x2 : Int32} {x3 : Int32} {x4 : Int32} {y1 : Int32} {y2 : Int32} {y3 : Int32} {M : Mem} (hM : KS SLy M0 M) : Fr SLy M0 (mX7_laySheet_b31 135 x1 x2 x3 x4 y1 y2 y3 M) := by
  unfold mX7_laySheet_b31
  exact (Fr.i (vX7_laySheet_b40 hM) (vX7_laySheet_b40 hM))
theorem vX7_laySheet_b17 {x1 : Int32} {x2 : Int32} {x3 : Int32} {y0 : Int32} {M : Mem} (hM : KS SLy M0 M) : Fr SLy M0 (mX7_laySheet_b17 135 x1 x2 x3 y0 M) := by
  unfold mX7_laySheet_b17
  exact (Fr.i (vX7_laySheet_b31 hM) (vX7_laySheet_b31 hM))
theorem vX7_laySheet {x1 : Int32} {x2 : Int32} {x3 : Int32} {M : Mem} (hM : KS SLy M0 M) : Fr SLy M0 (mX7_laySheet 135 x1 x2 x3 M) := by
  unfold mX7_laySheet
  exact (Fr.k (Fr.i (vX7_laySheet_b17 hM) (vX7_laySheet_b17 hM)))
theorem vX7_reasonOf {x1 : Int32} {x2 : Int32} {x3 : Int32} {M : Mem} (hM : KS SLy M0 M) : Fr SLy M0 (mX7_reasonOf 135 x1 x2 x3 M) := by
  unfold mX7_reasonOf
  exact (Fr.c (fun r2 => (Fr.i (Fr.c (fun r6 => (Fr.i (Fr.m (vX7_laySheet hM) (fun M11 _ hM11 => (Fr.c (fun r13 => (Fr.i (Fr.ok hM11) (Fr.c (fun r17 => (Fr.i (Fr.c (fun r21 => (Fr.i (Fr.c (fun r25 => (Fr.i (Fr.ok hM11) (Fr.ok hM11)))) (Fr.ok hM11)))) (Fr.ok hM11))))))))) (Fr.ok hM)))) (Fr.ok hM))))
theorem vX7_gaugeOf {x1 : Int32} {x2 : Int32} {x3 : Int32} {M : Mem} (hM : KS SLy M0 M) : Fr SLy M0 (mX7_gaugeOf 135 x1 x2 x3 M) := by
  unfold mX7_gaugeOf
  exact (Fr.m (vX7_laySheet hM) (fun M3 _ hM3 => (Fr.c (fun r5 => (Fr.ok hM3)))))
theorem vX7_layOrders_b117 {ih5 : Int32 → Mem → Option (Mem × Unit)} {x1 : Int32} {M : Mem} (hih5 : ∀ (v0 : Int32) (v1 : Mem), KS SLy M0 v1 → Fr SLy M0 (ih5 v0 v1)) (hM : KS SLy M0 M) : Fr SLy M0 (mX7_layOrders_b117 135 ih5 x1 M) := by
  unfold mX7_layOrders_b117
  exact (Fr.b (fun x1_117 => (hih5 _ _ hM)))
theorem vX7_layOrders_b109 {ih5 : Int32 → Mem → Option (Mem × Unit)} {ih30 : Int32 → Int32 → Mem → Option (Mem × Unit)} {x1 : Int32} {x2 : Int32} {y1 : Int32} {y2 : Int64} {y3 : Int64} {M : Mem} (hih5 : ∀ (v0 : Int32) (v1 : Mem), KS SLy M0 v1 → Fr SLy M0 (ih5 v0 v1)) (hih30 : ∀ (v0 : Int32) (v1 : Int32) (v2 : Mem), KS SLy M0 v2 → Fr SLy M0 (ih30 v0 v1 v2)) (hM : KS SLy M0 M) : Fr SLy M0 (mX7_layOrders_b109 135 ih5 ih30 x1 x2 y1 y2 y3 M) := by
  unfold mX7_layOrders_b109
  exact (Fr.k (Fr.bl hM (fun M30 hM30 => (Fr.b (fun x2_111 => (hih30 _ _ _ hM30))))))
theorem vX7_layOrders_b69 {ih5 : Int32 → Mem → Option (Mem × Unit)} {ih30 : Int32 → Int32 → Mem → Option (Mem × Unit)} {x1 : Int32} {x2 : Int32} {y0 : Int32} {M : Mem} (hih5 : ∀ (v0 : Int32) (v1 : Mem), KS SLy M0 v1 → Fr SLy M0 (ih5 v0 v1)) (hih30 : ∀ (v0 : Int32) (v1 : Int32) (v2 : Mem), KS SLy M0 v2 → Fr SLy M0 (ih30 v0 v1 v2)) (hM : KS SLy M0 M) : Fr SLy M0 (mX7_layOrders_b69 135 ih5 ih30 x1 x2 y0 M) := by
  unfold mX7_layOrders_b69
  exact (Fr.k (Fr.bw (Or.inr ⟨by decide, by decide⟩) hM (fun M25 hM25 => (Fr.k (Fr.i (vX7_layOrders_b109 hih5 hih30 hM25) (Fr.k (vX7_layOrders_b109 hih5 hih30 hM25)))))))
theorem vX7_layOrders_b30 {ih5 : Int32 → Mem → Option (Mem × Unit)} {ih30 : Int32 → Int32 → Mem → Option (Mem × Unit)} {x1 : Int32} {x2 : Int32} {M : Mem} (hih5 : ∀ (v0 : Int32) (v1 : Mem), KS SLy M0 v1 → Fr SLy M0 (ih5 v0 v1)) (hih30 : ∀ (v0 : Int32) (v1 : Int32) (v2 : Mem), KS SLy M0 v2 → Fr SLy M0 (ih30 v0 v1 v2)) (hM : KS SLy M0 M) : Fr SLy M0 (mX7_layOrders_b30 135 ih5 ih30 x1 x2 M) := by
  unfold mX7_layOrders_b30
  exact (Fr.k (Fr.i (vX7_layOrders_b117 hih5 hM) (Fr.c (fun r16 => (Fr.i (vX7_layOrders_b117 hih5 hM) (Fr.m (vX7_reasonOf hM) (fun M21 r20 hM21 => (Fr.i (vX7_layOrders_b69 hih5 hih30 hM21) (vX7_layOrders_b69 hih5 hih30 hM21)))))))))
theorem vX7_layOrders_l30_n {ih5 : Int32 → Mem → Option (Mem × Unit)} (hih5 : ∀ (u0 : Int32) (u1 : Mem), KS SLy M0 u1 → Fr SLy M0 (ih5 u0 u1)) : ∀ (n : Nat) (v0 : Int32) (v1 : Int32) (v2 : Mem), KS SLy M0 v2 → Fr SLy M0 (mX7_layOrders_l30 135 ih5 n v0 v1 v2) := by
  intro n
  induction n with
  | zero => intro v0 v1 v2 h; exact Fr.n
  | succ n IH => intro v0 v1 v2 h; exact vX7_layOrders_b30  hih5 IH h
theorem vX7_layOrders_l30 {ih5 : Int32 → Mem → Option (Mem × Unit)} {v0 : Int32} {v1 : Int32} {v2 : Mem} (hih5 : ∀ (u0 : Int32) (u1 : Mem), KS SLy M0 u1 → Fr SLy M0 (ih5 u0 u1)) {n : Nat} (h : KS SLy M0 v2) : Fr SLy M0 (mX7_layOrders_l30 135 ih5 n v0 v1 v2) := vX7_layOrders_l30_n  hih5 n v0 v1 v2 h
theorem vX7_layOrders_b27 {ih5 : Int32 → Mem → Option (Mem × Unit)} {x1 : Int32} {y1 : Int32} {y2 : Int64} {M : Mem} (hih5 : ∀ (v0 : Int32) (v1 : Mem), KS SLy M0 v1 → Fr SLy M0 (ih5 v0 v1)) (hM : KS SLy M0 M) : Fr SLy M0 (mX7_layOrders_b27 135 ih5 x1 y1 y2 M) := by
  unfold mX7_layOrders_b27
  exact (Fr.k (Fr.bl hM (fun M11 hM11 => (vX7_layOrders_l30 hih5 hM11))))
theorem vX7_layOrders_b5 {ih5 : Int32 → Mem → Option (Mem × Unit)} {x1 : Int32} {M : Mem} (hih5 : ∀ (v0 : Int32) (v1 : Mem), KS SLy M0 v1 → Fr SLy M0 (ih5 v0 v1)) (hM : KS SLy M0 M) : Fr SLy M0 (mX7_layOrders_b5 135 ih5 x1 M) := by
  unfold mX7_layOrders_b5
  exact (Fr.i (Fr.ok hM) (Fr.c (fun r6 => (Fr.i (vX7_layOrders_b27 hih5 hM) (vX7_layOrders_b27 hih5 hM)))))
theorem vX7_layOrders_l5_n  : ∀ (n : Nat) (v0 : Int32) (v1 : Mem), KS SLy M0 v1 → Fr SLy M0 (mX7_layOrders_l5 135 n v0 v1) := by
  intro n
  induction n with
  | zero => intro v0 v1 h; exact Fr.n
  | succ n IH => intro v0 v1 h; exact vX7_layOrders_b5  IH h
theorem vX7_layOrders_l5  {v0 : Int32} {v1 : Mem} {n : Nat} (h : KS SLy M0 v1) : Fr SLy M0 (mX7_layOrders_l5 135 n v0 v1) := vX7_layOrders_l5_n   n v0 v1 h
theorem vX7_layOrders {M : Mem} (hM : KS SLy M0 M) : Fr SLy M0 (mX7_layOrders 135 M) := by
  unfold mX7_layOrders
  exact (Fr.c (fun r2 => (vX7_layOrders_l5 hM)))
theorem vX7_layCost_b165 {ih36 : Int32 → Int32 → Int32 → Int32 → Int32 → Mem → Option (Mem × Unit)} {x1 : Int32} {x2 : Int32} {x3 : Int32} {x4 : Int32} {x5 : Int32} {M : Mem} (hih36 : ∀ (v0 : Int32) (v1 : Int32) (v2 : Int32) (v3 : Int32) (v4 : Int32) (v5 : Mem), KS SLy M0 v5 → Fr SLy M0 (ih36 v0 v1 v2 v3 v4 v5)) (hM : KS SLy M0 M) : Fr SLy M0 (mX7_layCost_b165 135 ih36 x1 x2 x3 x4 x5 M) := by
  unfold mX7_layCost_b165
  exact (Fr.b (fun x5_165 => (hih36 _ _ _ _ _ _ hM)))
theorem vX7_layCost_b117 {ih36 : Int32 → Int32 → Int32 → Int32 → Int32 → Mem → Option (Mem × Unit)} {x1 : Int32} {x2 : Int32} {x3 : Int32} {x4 : Int32} {x5 : Int32} {x6 : Int32} {y0 : Int32} {M : Mem} (hih36 : ∀ (v0 : Int32) (v1 : Int32) (v2 : Int32) (v3 : Int32) (v4 : Int32) (v5 : Mem), KS SLy M0 v5 → Fr SLy M0 (ih36 v0 v1 v2 v3 v4 v5)) (hM : KS SLy M0 M) : Fr SLy M0 (mX7_layCost_b117 135 ih36 x1 x2 x3 x4 x5 x6 y0 M) := by
  unfold mX7_layCost_b117
  exact (Fr.b (fun x8_131 => (Fr.k (Fr.b (fun x3_147 => (Fr.k (Fr.b (fun x4_163 => (vX7_layCost_b165 hih36 hM)))))))))
theorem vX7_layCost_b36 {ih36 : Int32 → Int32 → Int32 → Int32 → Int32 → Mem → Option (Mem × Unit)} {x1 : Int32} {x2 : Int32} {x3 : Int32} {x4 : Int32} {x5 : Int32} {M : Mem} (hih36 : ∀ (v0 : Int32) (v1 : Int32) (v2 : Int32) (v3 : Int32) (v4 : Int32) (v5 : Mem), KS SLy M0 v5 → Fr SLy M0 (ih36 v0 v1 v2 v3 v4 v5)) (hM : KS SLy M0 M) : Fr SLy M0 (mX7_layCost_b36 135 ih36 x1 x2 x3 x4 x5 M) := by
  unfold mX7_layCost_b36
  exact (Fr.k (Fr.i (Fr.k (Fr.bw (Or.inr ⟨by decide, by decide⟩) hM (fun M13 hM13 => (Fr.k (Fr.bw (Or.inr ⟨by decide, by decide⟩) hM13 (fun M16 hM16 => (Fr.ok hM16))))))) (Fr.k (Fr.i (vX7_layCost_b165 hih36 hM) (Fr.b (fun x6_71 => (Fr.i (vX7_layCost_b117 hih36 hM) (Fr.c (fun r22 => (Fr.k (Fr.c (fun r26 => (vX7_layCost_b117 hih36 hM)))))))))))))
theorem vX7_layCost_l36_n  : ∀ (n : Nat) (v0 : Int32) (v1 : Int32) (v2 : Int32) (v3 : Int32) (v4 : Int32) (v5 : Mem), KS SLy M0 v5 → Fr SLy M0 (mX7_layCost_l36 135 n v0 v1 v2 v3 v4 v5) := by
  intro n
  induction n with
  | zero => intro v0 v1 v2 v3 v4 v5 h; exact Fr.n
  | succ n IH => intro v0 v1 v2 v3 v4 v5 h; exact vX7_layCost_b36  IH h
theorem vX7_layCost_l36  {v0 : Int32} {v1 : Int32} {v2 : Int32} {v3 : Int32} {v4 : Int32} {v5 : Mem} {n : Nat} (h : KS SLy M0 v5) : Fr SLy M0 (mX7_layCost_l36 135 n v0 v1 v2 v3 v4 v5) := vX7_layCost_l36_n   n v0 v1 v2 v3 v4 v5 h
theorem vX7_layCost_b31 {x1 : Int32} {x2 : Int32} {x3 : Int32} {y0 : Int32} {M : Mem} (hM : KS SLy M0 M) : Fr SLy M0 (mX7_layCost_b31 135 x1 x2 x3 y0 M) := by
  unfold mX7_layCost_b31
  exact (vX7_layCost_l36 hM)
theorem vX7_layCost_b15 {x1 : Int32} {x2 : Int32} {y0 : Int32} {M : Mem} (hM : KS SLy M0 M) : Fr SLy M0 (mX7_layCost_b15 135 x1 x2 y0 M) := by
  unfold mX7_layCost_b15
  exact (Fr.c (fun r6 => (Fr.i (vX7_layCost_b31 hM) (vX7_layCost_b31 hM))))
theorem vX7_layCost {x1 : Int32} {x2 : Int32} {M : Mem} (hM : KS SLy M0 M) : Fr SLy M0 (mX7_layCost 135 x1 x2 M) := by
  unfold mX7_layCost
  exact (Fr.c (fun r2 => (Fr.i (vX7_layCost_b15 hM) (vX7_layCost_b15 hM))))
theorem vX7_layCosts_b127 {ih67 : Int32 → Mem → Option (Mem × Unit)} {x1 : Int32} {M : Mem} (hih67 : ∀ (v0 : Int32) (v1 : Mem), KS SLy M0 v1 → Fr SLy M0 (ih67 v0 v1)) (hM : KS SLy M0 M) : Fr SLy M0 (mX7_layCosts_b127 135 ih67 x1 M) := by
  unfold mX7_layCosts_b127
  exact (Fr.b (fun x1_127 => (hih67 _ _ hM)))
theorem vX7_layCosts_b121 {ih67 : Int32 → Mem → Option (Mem × Unit)} {ih73 : Int32 → Int32 → Mem → Option (Mem × Unit)} {x1 : Int32} {x2 : Int32} {M : Mem} (hih67 : ∀ (v0 : Int32) (v1 : Mem), KS SLy M0 v1 → Fr SLy M0 (ih67 v0 v1)) (hih73 : ∀ (v0 : Int32) (v1 : Int32) (v2 : Mem), KS SLy M0 v2 → Fr SLy M0 (ih73 v0 v1 v2)) (hM : KS SLy M0 M) : Fr SLy M0 (mX7_layCosts_b121 135 ih67 ih73 x1 x2 M) := by
  unfold mX7_layCosts_b121
  exact (Fr.b (fun x2_121 => (hih73 _ _ _ hM)))
theorem vX7_layCosts_b115 {ih67 : Int32 → Mem → Option (Mem × Unit)} {ih73 : Int32 → Int32 → Mem → Option (Mem × Unit)} {x1 : Int32} {x2 : Int32} {M : Mem} (hih67 : ∀ (v0 : Int32) (v1 : Mem), KS SLy M0 v1 → Fr SLy M0 (ih67 v0 v1)) (hih73 : ∀ (v0 : Int32) (v1 : Int32) (v2 : Mem), KS SLy M0 v2 → Fr SLy M0 (ih73 v0 v1 v2)) (hM : KS SLy M0 M) : Fr SLy M0 (mX7_layCosts_b115 135 ih67 ih73 x1 x2 M) := by
  unfold mX7_layCosts_b115
  exact (Fr.m (vX7_layCost hM) (fun M21 _ hM21 => (vX7_layCosts_b121 hih67 hih73 hM21)))
theorem vX7_layCosts_b73 {ih67 : Int32 → Mem → Option (Mem × Unit)} {ih73 : Int32 → Int32 → Mem → Option (Mem × Unit)} {x1 : Int32} {x2 : Int32} {M : Mem} (hih67 : ∀ (v0 : Int32) (v1 : Mem), KS SLy M0 v1 → Fr SLy M0 (ih67 v0 v1)) (hih73 : ∀ (v0 : Int32) (v1 : Int32) (v2 : Mem), KS SLy M0 v2 → Fr SLy M0 (ih73 v0 v1 v2)) (hM : KS SLy M0 M) : Fr SLy M0 (mX7_layCosts_b73 135 ih67 ih73 x1 x2 M) := by
  unfold mX7_layCosts_b73
  exact (Fr.i (vX7_layCosts_b127 hih67 hM) (Fr.c (fun r15 => (Fr.i (vX7_layCosts_b127 hih67 hM) (Fr.i (vX7_layCosts_b115 hih67 hih73 hM) (Fr.k (Fr.i (vX7_layCosts_b121 hih67 hih73 hM) (Fr.c (fun r26 => (Fr.i (vX7_layCosts_b121 hih67 hih73 hM) (vX7_layCosts_b115 hih67 hih73 hM)))))))))))
theorem vX7_layCosts_l73_n {ih67 : Int32 → Mem → Option (Mem × Unit)} (hih67 : ∀ (u0 : Int32) (u1 : Mem), KS SLy M0 u1 → Fr SLy M0 (ih67 u0 u1)) : ∀ (n : Nat) (v0 : Int32) (v1 : Int32) (v2 : Mem), KS SLy M0 v2 → Fr SLy M0 (mX7_layCosts_l73 135 ih67 n v0 v1 v2) := by
  intro n
  induction n with
  | zero => intro v0 v1 v2 h; exact Fr.n
  | succ n IH => intro v0 v1 v2 h; exact vX7_layCosts_b73  hih67 IH h
theorem vX7_layCosts_l73 {ih67 : Int32 → Mem → Option (Mem × Unit)} {v0 : Int32} {v1 : Int32} {v2 : Mem} (hih67 : ∀ (u0 : Int32) (u1 : Mem), KS SLy M0 u1 → Fr SLy M0 (ih67 u0 u1)) {n : Nat} (h : KS SLy M0 v2) : Fr SLy M0 (mX7_layCosts_l73 135 ih67 n v0 v1 v2) := vX7_layCosts_l73_n  hih67 n v0 v1 v2 h
theorem vX7_layCosts_b67 {ih67 : Int32 → Mem → Option (Mem × Unit)} {x1 : Int32} {M : Mem} (hih67 : ∀ (v0 : Int32) (v1 : Mem), KS SLy M0 v1 → Fr SLy M0 (ih67 v0 v1)) (hM : KS SLy M0 M) : Fr SLy M0 (mX7_layCosts_b67 135 ih67 x1 M) := by
  unfold mX7_layCosts_b67
  exact (Fr.i (Fr.ok hM) (vX7_layCosts_l73 hih67 hM))
theorem vX7_layCosts_l67_n  : ∀ (n : Nat) (v0 : Int32) (v1 : Mem), KS SLy M0 v1 → Fr SLy M0 (mX7_layCosts_l67 135 n v0 v1) := by
  intro n
  induction n with
  | zero => intro v0 v1 h; exact Fr.n
  | succ n IH => intro v0 v1 h; exact vX7_layCosts_b67  IH h
theorem vX7_layCosts_l67  {v0 : Int32} {v1 : Mem} {n : Nat} (h : KS SLy M0 v1) : Fr SLy M0 (mX7_layCosts_l67 135 n v0 v1) := vX7_layCosts_l67_n   n v0 v1 h
theorem vX7_layCosts_b16 {ih6 : Int32 → Mem → Option (Mem × Unit)} {ih16 : Int32 → Int32 → Mem → Option (Mem × Unit)} {x1 : Int32} {x2 : Int32} {M : Mem} (hih6 : ∀ (v0 : Int32) (v1 : Mem), KS SLy M0 v1 → Fr SLy M0 (ih6 v0 v1)) (hih16 : ∀ (v0 : Int32) (v1 : Int32) (v2 : Mem), KS SLy M0 v2 → Fr SLy M0 (ih16 v0 v1 v2)) (hM : KS SLy M0 M) : Fr SLy M0 (mX7_layCosts_b16 135 ih6 ih16 x1 x2 M) := by
  unfold mX7_layCosts_b16
  exact (Fr.k (Fr.i (Fr.b (fun x1_56 => (hih6 _ _ hM))) (Fr.m (vX7_gaugeOf hM) (fun M34 r33 hM34 => (Fr.k (Fr.bw (Or.inr ⟨by decide, by decide⟩) hM34 (fun M37 hM37 => (Fr.b (fun x2_50 => (hih16 _ _ _ hM37))))))))))
theorem vX7_layCosts_l16_n {ih6 : Int32 → Mem → Option (Mem × Unit)} (hih6 : ∀ (u0 : Int32) (u1 : Mem), KS SLy M0 u1 → Fr SLy M0 (ih6 u0 u1)) : ∀ (n : Nat) (v0 : Int32) (v1 : Int32) (v2 : Mem), KS SLy M0 v2 → Fr SLy M0 (mX7_layCosts_l16 135 ih6 n v0 v1 v2) := by
  intro n
  induction n with
  | zero => intro v0 v1 v2 h; exact Fr.n
  | succ n IH => intro v0 v1 v2 h; exact vX7_layCosts_b16  hih6 IH h
theorem vX7_layCosts_l16 {ih6 : Int32 → Mem → Option (Mem × Unit)} {v0 : Int32} {v1 : Int32} {v2 : Mem} (hih6 : ∀ (u0 : Int32) (u1 : Mem), KS SLy M0 u1 → Fr SLy M0 (ih6 u0 u1)) {n : Nat} (h : KS SLy M0 v2) : Fr SLy M0 (mX7_layCosts_l16 135 ih6 n v0 v1 v2) := vX7_layCosts_l16_n  hih6 n v0 v1 v2 h
theorem vX7_layCosts_b6 {ih6 : Int32 → Mem → Option (Mem × Unit)} {x1 : Int32} {M : Mem} (hih6 : ∀ (v0 : Int32) (v1 : Mem), KS SLy M0 v1 → Fr SLy M0 (ih6 v0 v1)) (hM : KS SLy M0 M) : Fr SLy M0 (mX7_layCosts_b6 135 ih6 x1 M) := by
  unfold mX7_layCosts_b6
  exact (Fr.c (fun r5 => (Fr.i (Fr.c (fun r9 => (vX7_layCosts_l67 hM))) (vX7_layCosts_l16 hih6 hM))))
theorem vX7_layCosts_l6_n  : ∀ (n : Nat) (v0 : Int32) (v1 : Mem), KS SLy M0 v1 → Fr SLy M0 (mX7_layCosts_l6 135 n v0 v1) := by
  intro n
  induction n with
  | zero => intro v0 v1 h; exact Fr.n
  | succ n IH => intro v0 v1 h; exact vX7_layCosts_b6  IH h
theorem vX7_layCosts_l6  {v0 : Int32} {v1 : Mem} {n : Nat} (h : KS SLy M0 v1) : Fr SLy M0 (mX7_layCosts_l6 135 n v0 v1) := vX7_layCosts_l6_n   n v0 v1 h
theorem vX7_layCosts {M : Mem} (hM : KS SLy M0 M) : Fr SLy M0 (mX7_layCosts 135 M) := by
  unfold mX7_layCosts
  exact (Fr.m (vX7_layOrders hM) (fun M3 _ hM3 => (vX7_layCosts_l6 hM3)))
theorem vX7_layReached_b107 {ih44 : Int32 → Mem → Option (Mem × Unit)} {x1 : Int32} {M : Mem} (hih44 : ∀ (v0 : Int32) (v1 : Mem), KS SLy M0 v1 → Fr SLy M0 (ih44 v0 v1)) (hM : KS SLy M0 M) : Fr SLy M0 (mX7_layReached_b107 135 ih44 x1 M) := by
  unfold mX7_layReached_b107
  exact (Fr.b (fun x1_107 => (hih44 _ _ hM)))
theorem vX7_layReached_b54 {ih44 : Int32 → Mem → Option (Mem × Unit)} {ih54 : Int32 → Int32 → Mem → Option (Mem × Unit)} {x1 : Int32} {x2 : Int32} {M : Mem} (hih44 : ∀ (v0 : Int32) (v1 : Mem), KS SLy M0 v1 → Fr SLy M0 (ih44 v0 v1)) (hih54 : ∀ (v0 : Int32) (v1 : Int32) (v2 : Mem), KS SLy M0 v2 → Fr SLy M0 (ih54 v0 v1 v2)) (hM : KS SLy M0 M) : Fr SLy M0 (mX7_layReached_b54 135 ih44 ih54 x1 x2 M) := by
  unfold mX7_layReached_b54
  exact (Fr.k (Fr.i (vX7_layReached_b107 hih44 hM) (Fr.k (Fr.i (vX7_layReached_b107 hih44 hM) (Fr.k (Fr.k (Fr.k (Fr.bw (Or.inr ⟨by decide, by decide⟩) hM (fun M21 hM21 => (Fr.b (fun x2_101 => (hih54 _ _ _ hM21))))))))))))
theorem vX7_layReached_l54_n {ih44 : Int32 → Mem → Option (Mem × Unit)} (hih44 : ∀ (u0 : Int32) (u1 : Mem), KS SLy M0 u1 → Fr SLy M0 (ih44 u0 u1)) : ∀ (n : Nat) (v0 : Int32) (v1 : Int32) (v2 : Mem), KS SLy M0 v2 → Fr SLy M0 (mX7_layReached_l54 135 ih44 n v0 v1 v2) := by
  intro n
  induction n with
  | zero => intro v0 v1 v2 h; exact Fr.n
  | succ n IH => intro v0 v1 v2 h; exact vX7_layReached_b54  hih44 IH h
theorem vX7_layReached_l54 {ih44 : Int32 → Mem → Option (Mem × Unit)} {v0 : Int32} {v1 : Int32} {v2 : Mem} (hih44 : ∀ (u0 : Int32) (u1 : Mem), KS SLy M0 u1 → Fr SLy M0 (ih44 u0 u1)) {n : Nat} (h : KS SLy M0 v2) : Fr SLy M0 (mX7_layReached_l54 135 ih44 n v0 v1 v2) := vX7_layReached_l54_n  hih44 n v0 v1 v2 h
theorem vX7_layReached_b44 {ih44 : Int32 → Mem → Option (Mem × Unit)} {x1 : Int32} {M : Mem} (hih44 : ∀ (v0 : Int32) (v1 : Mem), KS SLy M0 v1 → Fr SLy M0 (ih44 v0 v1)) (hM : KS SLy M0 M) : Fr SLy M0 (mX7_layReached_b44 135 ih44 x1 M) := by
  unfold mX7_layReached_b44
  exact (Fr.c (fun r9 => (Fr.i (Fr.ok hM) (vX7_layReached_l54 hih44 hM))))
theorem vX7_layReached_l44_n  : ∀ (n : Nat) (v0 : Int32) (v1 : Mem), KS SLy M0 v1 → Fr SLy M0 (mX7_layReached_l44 135 n v0 v1) := by
  intro n
  induction n with
  | zero => intro v0 v1 h; exact Fr.n
  | succ n IH => intro v0 v1 h; exact vX7_layReached_b44  IH h
theorem vX7_layReached_l44  {v0 : Int32} {v1 : Mem} {n : Nat} (h : KS SLy M0 v1) : Fr SLy M0 (mX7_layReached_l44 135 n v0 v1) := vX7_layReached_l44_n   n v0 v1 h
theorem vX7_layReached_b35 {ih6 : Int32 → Mem → Option (Mem × Unit)} {x1 : Int32} {y1 : Int32} {y2 : Int32} {M : Mem} (hih6 : ∀ (v0 : Int32) (v1 : Mem), KS SLy M0 v1 → Fr SLy M0 (ih6 v0 v1)) (hM : KS SLy M0 M) : Fr SLy M0 (mX7_layReached_b35 135 ih6 x1 y1 y2 M) := by
  unfold mX7_layReached_b35
  exact (Fr.k (Fr.bw (Or.inr ⟨by decide, by decide⟩) hM (fun M27 hM27 => (Fr.b (fun x1_36 => (hih6 _ _ hM27))))))
theorem vX7_layReached_b6 {ih6 : Int32 → Mem → Option (Mem × Unit)} {x1 : Int32} {M : Mem} (hih6 : ∀ (v0 : Int32) (v1 : Mem), KS SLy M0 v1 → Fr SLy M0 (ih6 v0 v1)) (hM : KS SLy M0 M) : Fr SLy M0 (mX7_layReached_b6 135 ih6 x1 M) := by
  unfold mX7_layReached_b6
  exact (Fr.c (fun r5 => (Fr.i (vX7_layReached_l44 hM) (Fr.k (Fr.i (vX7_layReached_b35 hih6 hM) (vX7_layReached_b35 hih6 hM))))))
theorem vX7_layReached_l6_n  : ∀ (n : Nat) (v0 : Int32) (v1 : Mem), KS SLy M0 v1 → Fr SLy M0 (mX7_layReached_l6 135 n v0 v1) := by
  intro n
  induction n with
  | zero => intro v0 v1 h; exact Fr.n
  | succ n IH => intro v0 v1 h; exact vX7_layReached_b6  IH h
theorem vX7_layReached_l6  {v0 : Int32} {v1 : Mem} {n : Nat} (h : KS SLy M0 v1) : Fr SLy M0 (mX7_layReached_l6 135 n v0 v1) := vX7_layReached_l6_n   n v0 v1 h
theorem vX7_layReached {M : Mem} (hM : KS SLy M0 M) : Fr SLy M0 (mX7_layReached 135 M) := by
  unfold mX7_layReached
  exact (Fr.m (vX7_layOrders hM) (fun M3 _ hM3 => (vX7_layReached_l6 hM3)))
end FFlay
end
/-! part 60zz0b.fload -/
section
/-! what reading a text writes (printed) -/
def SLc (k _ : Nat) : Prop := k = 2 ∨ k = 3 ∨ (13 ≤ k ∧ k ≤ 20)
section FFldc
variable {M0 : Mem}
theorem wX1_putSheet {k0 : Nat} {x1 : Int32} {x2 : Int32} {x3 : Int32} {M : Mem} (wk0 : k0 = 13) (hM : KS SLc M0 M) : Fr SLc M0 (mX1_putSheet k0 x1 x2 x3 M) := by
  unfold mX1_putSheet
  exact (Fr.bw (by unfold SLc; omega) hM (fun M1 hM1 => (Fr.bw (by unfold SLc; omega) hM1 (fun M3 hM3 => (Fr.bw (by unfold SLc; omega) hM3 (fun M5 hM5 => (Fr.ok hM5)))))))
theorem wX1_putTool {k0 : Nat} {x1 : Int32} {x2 : Int32} {x3 : Int32} {M : Mem} (wk0 : k0 = 13) (hM : KS SLc M0 M) : Fr SLc M0 (mX1_putTool k0 x1 x2 x3 M) := by
  unfold mX1_putTool
  exact (Fr.i (Fr.ok hM) (Fr.i (Fr.ok hM) (Fr.k (Fr.bw (by unfold SLc; omega) hM (fun M5 hM5 => (Fr.k (Fr.bw (by unfold SLc; omega) hM5 (fun M8 hM8 => (Fr.ok hM8)))))))))
theorem wX1_putCosts {k0 : Nat} {x1 : Int32} {x2 : Int32} {x3 : Int32} {M : Mem} (wk0 : k0 = 13) (hM : KS SLc M0 M) : Fr SLc M0 (mX1_putCosts k0 x1 x2 x3 M) := by
  unfold mX1_putCosts
  exact (Fr.bw (by unfold SLc; omega) hM (fun M1 hM1 => (Fr.bw (by unfold SLc; omega) hM1 (fun M3 hM3 => (Fr.bw (by unfold SLc; omega) hM3 (fun M5 hM5 => (Fr.ok hM5)))))))
theorem wX1_dropSteps {k0 : Nat} {M : Mem} (wk0 : k0 = 13) (hM : KS SLc M0 M) : Fr SLc M0 (mX1_dropSteps k0 M) := by
  unfold mX1_dropSteps
  exact (Fr.bw (by unfold SLc; omega) hM (fun M1 hM1 => (Fr.bw (by unfold SLc; omega) hM1 (fun M3 hM3 => (Fr.ok hM3)))))
theorem wX1_clear {k0 : Nat} {M : Mem} (wk0 : k0 = 13) (hM : KS SLc M0 M) : Fr SLc M0 (mX1_clear k0 M) := by
  unfold mX1_clear
  exact (Fr.bw (by unfold SLc; omega) hM (fun M1 hM1 => (Fr.bw (by unfold SLc; omega) hM1 (fun M3 hM3 => (Fr.bw (by unfold SLc; omega) hM3 (fun M5 hM5 => (Fr.m (wX1_putSheet (by omega) hM5) (fun M9 _ hM9 => (Fr.m (wX1_putTool (by omega) hM9) (fun M12 _ hM12 => (Fr.m (wX1_putTool (by omega) hM12) (fun M15 _ hM15 => (Fr.m (wX1_putTool (by omega) hM15) (fun M18 _ hM18 => (Fr.m (wX1_putTool (by omega) hM18) (fun M21 _ hM21 => (Fr.m (wX1_putTool (by omega) hM21) (fun M24 _ hM24 => (Fr.m (wX1_putCosts (by omega) hM24) (fun M27 _ hM27 => (Fr.m (wX1_dropSteps (by omega) hM27) (fun M30 _ hM30 => (Fr.ok hM30)))))))))))))))))))))))
theorem wX1_addBack {k0 : Nat} {x1 : Int32} {x2 : Int32} {M : Mem} (wk0 : k0 = 13) (hM : KS SLc M0 M) : Fr SLc M0 (mX1_addBack k0 x1 x2 M) := by
  unfold mX1_addBack
  exact (Fr.i (Fr.ok hM) (Fr.k (Fr.bw (by unfold SLc; omega) hM (fun M4 hM4 => (Fr.k (Fr.bw (by unfold SLc; omega) hM4 (fun M7 hM7 => (Fr.bw (by unfold SLc; omega) hM7 (fun M8 hM8 => (Fr.ok hM8))))))))))
theorem wX1_addLeg_b47 {k0 : Nat} {M : Mem} (wk0 : k0 = 13) (hM : KS SLc M0 M) : Fr SLc M0 (mX1_addLeg_b47 k0 M) := by
  unfold mX1_addLeg_b47
  exact (Fr.bw (by unfold SLc; omega) hM (fun M6 hM6 => (Fr.ok hM6)))
theorem wX1_addLeg {k0 : Nat} {x1 : Int32} {x2 : Int32} {M : Mem} (wk0 : k0 = 13) (hM : KS SLc M0 M) : Fr SLc M0 (mX1_addLeg k0 x1 x2 M) := by
  unfold mX1_addLeg
  exact (Fr.i (Fr.ok hM) (Fr.k (Fr.bw (by unfold SLc; omega) hM (fun M4 hM4 => (Fr.i (wX1_addLeg_b47 (by omega) hM4) (Fr.i (wX1_addLeg_b47 (by omega) hM4) (Fr.bw (by unfold SLc; omega) hM4 (fun M9 hM9 => (wX1_addLeg_b47 (by omega) hM9)))))))))
theorem wX4_takeWord_b39 {k0 : Nat} {M : Mem} (wk0 : k0 = 2) (hM : KS SLc M0 M) : Fr SLc M0 (mX4_takeWord_b39 k0 M) := by
  unfold mX4_takeWord_b39
  exact (Fr.i (Fr.bw (by unfold SLc; omega) hM (fun M3 hM3 => (Fr.ok hM3))) (Fr.bw (by unfold SLc; omega) hM (fun M5 hM5 => (Fr.ok hM5))))
theorem wX4_takeWord_b0 {k0 : Nat} {ih0 : Mem → Option (Mem × Unit)} {M : Mem} (wk0 : k0 = 2) (hih0 : ∀ (v0 : Mem), KS SLc M0 v0 → Fr SLc M0 (ih0 v0)) (hM : KS SLc M0 M) : Fr SLc M0 (mX4_takeWord_b0 k0 ih0 M) := by
  unfold mX4_takeWord_b0
  exact (Fr.i (wX4_takeWord_b39 (by omega) hM) (Fr.k (Fr.k (Fr.c (fun r10 => (Fr.i (wX4_takeWord_b39 (by omega) hM) (Fr.bw (by unfold SLc; omega) hM (fun M13 hM13 => (hih0 _ hM13)))))))))
theorem wX4_takeWord_l0_n {k0 : Nat} (wk0 : k0 = 2) : ∀ (n : Nat) (v0 : Mem), KS SLc M0 v0 → Fr SLc M0 (mX4_takeWord_l0 k0 n v0) := by
  intro n
  induction n with
  | zero => intro v0 h; exact Fr.n
  | succ n IH => intro v0 h; exact wX4_takeWord_b0 (by omega) IH h
theorem wX4_takeWord_l0 {k0 : Nat} {v0 : Mem} (wk0 : k0 = 2) {n : Nat} (h : KS SLc M0 v0) : Fr SLc M0 (mX4_takeWord_l0 k0 n v0) := wX4_takeWord_l0_n wk0  n v0 h
theorem wX4_takeWord {k0 : Nat} {M : Mem} (wk0 : k0 = 2) (hM : KS SLc M0 M) : Fr SLc M0 (mX4_takeWord k0 M) := by
  unfold mX4_takeWord
  exact (wX4_takeWord_l0 (by omega) hM)
theorem wX4_takeNumber_b76 {k0 : Nat} {M : Mem} (wk0 : k0 = 2) (hM : KS SLc M0 M) : Fr SLc M0 (mX4_takeNumber_b76 k0 M) := by
  unfold mX4_takeNumber_b76
  exact (Fr.i (Fr.bw (by unfold SLc; omega) hM (fun M3 hM3 => (Fr.ok hM3))) (Fr.bw (by unfold SLc; omega) hM (fun M5 hM5 => (Fr.ok hM5))))
theorem wX4_takeNumber_b63 {k0 : Nat} {ih0 : Mem → Option (Mem × Unit)} {M : Mem} (wk0 : k0 = 2) (hih0 : ∀ (v0 : Mem), KS SLc M0 v0 → Fr SLc M0 (ih0 v0)) (hM : KS SLc M0 M) : Fr SLc M0 (mX4_takeNumber_b63 k0 ih0 M) := by
  unfold mX4_takeNumber_b63
  exact (Fr.bw (by unfold SLc; omega) hM (fun M14 hM14 => (hih0 _ hM14)))
theorem wX4_takeNumber_b0 {k0 : Nat} {ih0 : Mem → Option (Mem × Unit)} {M : Mem} (wk0 : k0 = 2) (hih0 : ∀ (v0 : Mem), KS SLc M0 v0 → Fr SLc M0 (ih0 v0)) (hM : KS SLc M0 M) : Fr SLc M0 (mX4_takeNumber_b0 k0 ih0 M) := by
  unfold mX4_takeNumber_b0
  exact (Fr.i (wX4_takeNumber_b76 (by omega) hM) (Fr.k (Fr.k (Fr.c (fun r10 => (Fr.i (wX4_takeNumber_b76 (by omega) hM) (Fr.i (wX4_takeNumber_b63 (by omega) hih0 hM) (Fr.k (Fr.k (Fr.bw (by unfold SLc; omega) hM (fun M18 hM18 => (wX4_takeNumber_b63 (by omega) hih0 hM18))))))))))))
theorem wX4_takeNumber_l0_n {k0 : Nat} (wk0 : k0 = 2) : ∀ (n : Nat) (v0 : Mem), KS SLc M0 v0 → Fr SLc M0 (mX4_takeNumber_l0 k0 n v0) := by
  intro n
  induction n with
  | zero => intro v0 h; exact Fr.n
  | succ n IH => intro v0 h; exact wX4_takeNumber_b0 (by omega) IH h
theorem wX4_takeNumber_l0 {k0 : Nat} {v0 : Mem} (wk0 : k0 = 2) {n : Nat} (h : KS SLc M0 v0) : Fr SLc M0 (mX4_takeNumber_l0 k0 n v0) := wX4_takeNumber_l0_n wk0  n v0 h
theorem wX4_takeNumber {k0 : Nat} {M : Mem} (wk0 : k0 = 2) (hM : KS SLc M0 M) : Fr SLc M0 (mX4_takeNumber k0 M) := by
  unfold mX4_takeNumber
  exact (wX4_takeNumber_l0 (by omega) hM)
theorem wX4_nextToken_b143 {k0 : Nat} {y1 : Int32} {M : Mem} (wk0 : k0 = 2) (hM : KS SLc M0 M) : Fr SLc M0 (mX4_nextToken_b143 k0 y1 M) := by
  unfold mX4_nextToken_b143
  exact (Fr.bw (by unfold SLc; omega) hM (fun M24 hM24 => (Fr.bw (by unfold SLc; omega) hM24 (fun M26 hM26 => (Fr.ok hM26)))))
theorem wX4_nextToken_b47 {k0 : Nat} {M : Mem} (wk0 : k0 = 2) (hM : KS SLc M0 M) : Fr SLc M0 (mX4_nextToken_b47 k0 M) := by
  unfold mX4_nextToken_b47
  exact (Fr.bw (by unfold SLc; omega) hM (fun M4 hM4 => (Fr.bw (by unfold SLc; omega) hM4 (fun M6 hM6 => (Fr.i (Fr.k (Fr.k (Fr.c (fun r12 => (Fr.i (Fr.k (Fr.k (Fr.c (fun r18 => (Fr.i (Fr.k (Fr.k (Fr.i (wX4_nextToken_b143 (by omega) hM6) (wX4_nextToken_b143 (by omega) hM6)))) (Fr.m (wX4_takeNumber (by omega) hM6) (fun M30 _ hM30 => (Fr.ok hM30)))))))) (Fr.m (wX4_takeWord (by omega) hM6) (fun M33 _ hM33 => (Fr.ok hM33)))))))) (Fr.bw (by unfold SLc; omega) hM6 (fun M34 hM34 => (Fr.ok hM34))))))))
theorem wX4_nextToken_b8 {k0 : Nat} {ih8 : Mem → Option (Mem × Unit)} {M : Mem} (wk0 : k0 = 2) (hih8 : ∀ (v0 : Mem), KS SLc M0 v0 → Fr SLc M0 (ih8 v0)) (hM : KS SLc M0 M) : Fr SLc M0 (mX4_nextToken_b8 k0 ih8 M) := by
  unfold mX4_nextToken_b8
  exact (Fr.i (wX4_nextToken_b47 (by omega) hM) (Fr.k (Fr.k (Fr.c (fun r39 => (Fr.i (wX4_nextToken_b47 (by omega) hM) (Fr.bw (by unfold SLc; omega) hM (fun M42 hM42 => (hih8 _ hM42)))))))))
theorem wX4_nextToken_l8_n {k0 : Nat} (wk0 : k0 = 2) : ∀ (n : Nat) (v0 : Mem), KS SLc M0 v0 → Fr SLc M0 (mX4_nextToken_l8 k0 n v0) := by
  intro n
  induction n with
  | zero => intro v0 h; exact Fr.n
  | succ n IH => intro v0 h; exact wX4_nextToken_b8 (by omega) IH h
theorem wX4_nextToken_l8 {k0 : Nat} {v0 : Mem} (wk0 : k0 = 2) {n : Nat} (h : KS SLc M0 v0) : Fr SLc M0 (mX4_nextToken_l8 k0 n v0) := wX4_nextToken_l8_n wk0  n v0 h
theorem wX4_nextToken {k0 : Nat} {M : Mem} (wk0 : k0 = 2) (hM : KS SLc M0 M) : Fr SLc M0 (mX4_nextToken k0 M) := by
  unfold mX4_nextToken
  exact (Fr.bw (by unfold SLc; omega) hM (fun M1 hM1 => (wX4_nextToken_l8 (by omega) hM1)))
theorem wX4_accept_b139 {k0 : Nat} {k1 : Nat} {k2 : Nat} {y1 : Int32} {y2 : Int32} {M : Mem} (wk2 : k2 = 13) (hM : KS SLc M0 M) : Fr SLc M0 (mX4_accept_b139 k0 k1 k2 y1 y2 M) := by
  unfold mX4_accept_b139
  exact (Fr.m (wX1_addLeg (by omega) hM) (fun M12 _ hM12 => (Fr.ok hM12)))
theorem wX4_accept {k0 : Nat} {k1 : Nat} {k2 : Nat} {M : Mem} (wk2 : k2 = 13) (hM : KS SLc M0 M) : Fr SLc M0 (mX4_accept k0 k1 k2 M) := by
  unfold mX4_accept
  exact (Fr.c (fun r2 => (Fr.i (Fr.i (Fr.k (Fr.k (Fr.k (Fr.m (wX1_putSheet (by omega) hM) (fun M29 _ hM29 => (Fr.ok hM29)))))) (Fr.i (Fr.k (Fr.k (Fr.k (Fr.m (wX1_putCosts (by omega) hM) (fun M23 _ hM23 => (Fr.ok hM23)))))) (Fr.i (Fr.k (Fr.k (Fr.m (wX1_addBack (by omega) hM) (fun M17 _ hM17 => (Fr.ok hM17))))) (Fr.k (Fr.i (wX4_accept_b139 (by omega) hM) (wX4_accept_b139 (by omega) hM)))))) (Fr.k (Fr.k (Fr.m (wX1_putTool (by omega) hM) (fun M34 _ hM34 => (Fr.ok hM34))))))))
theorem wX4_readStatement_b148 {k0 : Nat} {k1 : Nat} {x3 : Int32} {M : Mem} (wk0 : k0 = 2) (hM : KS SLc M0 M) : Fr SLc M0 (mX4_readStatement_b148 k0 k1 x3 M) := by
  unfold mX4_readStatement_b148
  exact (Fr.bw (by unfold SLc; omega) hM (fun M8 hM8 => (Fr.bw (by unfold SLc; omega) hM8 (fun M10 hM10 => (Fr.ok hM10)))))
theorem wX4_readStatement_b131 {k0 : Nat} {k1 : Nat} {x3 : Int32} {M : Mem} (wk0 : k0 = 2) (hM : KS SLc M0 M) : Fr SLc M0 (mX4_readStatement_b131 k0 k1 x3 M) := by
  unfold mX4_readStatement_b131
  exact (Fr.i (wX4_readStatement_b148 (by omega) hM) (wX4_readStatement_b148 (by omega) hM))
theorem wX4_readStatement_b110 {k0 : Nat} {k1 : Nat} {ih55 : Int32 → Int32 → Mem → Option (Mem × Unit)} {x3 : Int32} {x4 : Int32} {M : Mem} (hih55 : ∀ (v0 : Int32) (v1 : Int32) (v2 : Mem), KS SLc M0 v2 → Fr SLc M0 (ih55 v0 v1 v2)) (hM : KS SLc M0 M) : Fr SLc M0 (mX4_readStatement_b110 k0 k1 ih55 x3 x4 M) := by
  unfold mX4_readStatement_b110
  exact (Fr.b (fun x4_110 => (hih55 _ _ _ hM)))
theorem wX4_readStatement_b55 {k0 : Nat} {k1 : Nat} {ih55 : Int32 → Int32 → Mem → Option (Mem × Unit)} {x3 : Int32} {x4 : Int32} {M : Mem} (wk0 : k0 = 2) (hih55 : ∀ (v0 : Int32) (v1 : Int32) (v2 : Mem), KS SLc M0 v2 → Fr SLc M0 (ih55 v0 v1 v2)) (hM : KS SLc M0 M) : Fr SLc M0 (mX4_readStatement_b55 k0 k1 ih55 x3 x4 M) := by
  unfold mX4_readStatement_b55
  exact (Fr.i (Fr.i (Fr.m (wX4_nextToken (by omega) hM) (fun M14 _ hM14 => (Fr.c (fun r16 => (wX4_readStatement_b131 (by omega) hM14))))) (wX4_readStatement_b131 (by omega) hM)) (Fr.k (Fr.bw (by unfold SLc; omega) hM (fun M20 hM20 => (Fr.i (wX4_readStatement_b110 hih55 hM20) (wX4_readStatement_b110 hih55 hM20))))))
theorem wX4_readStatement_l55_n {k0 : Nat} {k1 : Nat} (wk0 : k0 = 2) : ∀ (n : Nat) (v0 : Int32) (v1 : Int32) (v2 : Mem), KS SLc M0 v2 → Fr SLc M0 (mX4_readStatement_l55 k0 k1 n v0 v1 v2) := by
  intro n
  induction n with
  | zero => intro v0 v1 v2 h; exact Fr.n
  | succ n IH => intro v0 v1 v2 h; exact wX4_readStatement_b55 (by omega) IH h
theorem wX4_readStatement_l55 {k0 : Nat} {k1 : Nat} {v0 : Int32} {v1 : Int32} {v2 : Mem} (wk0 : k0 = 2) {n : Nat} (h : KS SLc M0 v2) : Fr SLc M0 (mX4_readStatement_l55 k0 k1 n v0 v1 v2) := wX4_readStatement_l55_n wk0  n v0 v1 v2 h
theorem wX4_readStatement_b51 {k0 : Nat} {k1 : Nat} {y0 : Int32} {M : Mem} (wk0 : k0 = 2) (hM : KS SLc M0 M) : Fr SLc M0 (mX4_readStatement_b51 k0 k1 y0 M) := by
  unfold mX4_readStatement_b51
  exact (wX4_readStatement_l55 (by omega) hM)
theorem wX4_readStatement_b32 {k0 : Nat} {k1 : Nat} {M : Mem} (wk0 : k0 = 2) (hM : KS SLc M0 M) : Fr SLc M0 (mX4_readStatement_b32 k0 k1 M) := by
  unfold mX4_readStatement_b32
  exact (Fr.c (fun r3 => (wX4_readStatement_b51 (by omega) hM)))
theorem wX4_readStatement_b131v1 {k0 : Nat} {k1 : Nat} {w2 : Nat} {x3 : Int32} {M : Mem} (wk0 : k0 = 2) (wk1 : k1 = 13) (hM : KS SLc M0 M) : Fr SLc M0 (mX4_readStatement_b131v1 k0 k1 w2 x3 M) := by
  unfold mX4_readStatement_b131v1
  exact (Fr.i (Fr.m (wX4_accept (by omega) hM) (fun M37 _ hM37 => (Fr.ok hM37))) (wX4_readStatement_b148 (by omega) hM))
theorem wX4_readStatement_b110v1 {k0 : Nat} {k1 : Nat} {w2 : Nat} {ih55v1 : Int32 → Int32 → Mem → Option (Mem × Unit)} {x3 : Int32} {x4 : Int32} {M : Mem} (hih55v1 : ∀ (v0 : Int32) (v1 : Int32) (v2 : Mem), KS SLc M0 v2 → Fr SLc M0 (ih55v1 v0 v1 v2)) (hM : KS SLc M0 M) : Fr SLc M0 (mX4_readStatement_b110v1 k0 k1 w2 ih55v1 x3 x4 M) := by
  unfold mX4_readStatement_b110v1
  exact (Fr.b (fun x4_110 => (hih55v1 _ _ _ hM)))
theorem wX4_readStatement_b55v1 {k0 : Nat} {k1 : Nat} {w2 : Nat} {ih55v1 : Int32 → Int32 → Mem → Option (Mem × Unit)} {x3 : Int32} {x4 : Int32} {M : Mem} (wk0 : k0 = 2) (wk1 : k1 = 13) (hih55v1 : ∀ (v0 : Int32) (v1 : Int32) (v2 : Mem), KS SLc M0 v2 → Fr SLc M0 (ih55v1 v0 v1 v2)) (hM : KS SLc M0 M) : Fr SLc M0 (mX4_readStatement_b55v1 k0 k1 w2 ih55v1 x3 x4 M) := by
  unfold mX4_readStatement_b55v1
  exact (Fr.i (Fr.i (Fr.m (wX4_nextToken (by omega) hM) (fun M40 _ hM40 => (Fr.c (fun r42 => (wX4_readStatement_b131v1 (by omega) (by omega) hM40))))) (wX4_readStatement_b131v1 (by omega) (by omega) hM)) (Fr.k (Fr.bw (by unfold SLc; omega) hM (fun M46 hM46 => (Fr.i (Fr.c (fun r50 => (Fr.i (wX4_readStatement_b110v1 hih55v1 hM46) (Fr.m (wX4_nextToken (by omega) hM46) (fun M55 _ hM55 => (Fr.c (fun r57 => (Fr.k (Fr.bw (by unfold SLc; omega) hM55 (fun M61 hM61 => (wX4_readStatement_b110v1 hih55v1 hM61))))))))))) (wX4_readStatement_b110v1 hih55v1 hM46))))))
theorem wX4_readStatement_l55v1_n {k0 : Nat} {k1 : Nat} {w2 : Nat} (wk0 : k0 = 2) (wk1 : k1 = 13) : ∀ (n : Nat) (v0 : Int32) (v1 : Int32) (v2 : Mem), KS SLc M0 v2 → Fr SLc M0 (mX4_readStatement_l55v1 k0 k1 w2 n v0 v1 v2) := by
  intro n
  induction n with
  | zero => intro v0 v1 v2 h; exact Fr.n
  | succ n IH => intro v0 v1 v2 h; exact wX4_readStatement_b55v1 (by omega) (by omega) IH h
theorem wX4_readStatement_l55v1 {k0 : Nat} {k1 : Nat} {w2 : Nat} {v0 : Int32} {v1 : Int32} {v2 : Mem} (wk0 : k0 = 2) (wk1 : k1 = 13) {n : Nat} (h : KS SLc M0 v2) : Fr SLc M0 (mX4_readStatement_l55v1 k0 k1 w2 n v0 v1 v2) := wX4_readStatement_l55v1_n wk0 wk1  n v0 v1 v2 h
theorem wX4_readStatement_b51v1 {k0 : Nat} {k1 : Nat} {w2 : Nat} {y0 : Int32} {M : Mem} (wk0 : k0 = 2) (wk1 : k1 = 13) (hM : KS SLc M0 M) : Fr SLc M0 (mX4_readStatement_b51v1 k0 k1 w2 y0 M) := by
  unfold mX4_readStatement_b51v1
  exact (wX4_readStatement_l55v1 (by omega) (by omega) hM)
theorem wX4_readStatement_b32v1 {k0 : Nat} {k1 : Nat} {ws0 : Nat} {M : Mem} (wk0 : k0 = 2) (wk1 : k1 = 13) (hM : KS SLc M0 M) : Fr SLc M0 (mX4_readStatement_b32v1 k0 k1 ws0 M) := by
  unfold mX4_readStatement_b32v1
  exact (Fr.c (fun r30 => (wX4_readStatement_b51v1 (by omega) (by omega) hM)))
theorem wX4_readStatement {k0 : Nat} {k1 : Nat} {M : Mem} (wk0 : k0 = 2) (wk1 : k1 = 13) (hM : KS SLc M0 M) : Fr SLc M0 (mX4_readStatement k0 k1 M) := by
  unfold mX4_readStatement
  exact (Fr.i (Fr.k (Fr.c (fun r25 => (Fr.o (wX4_readStatement_b32 (by omega) hM) (fun w27 => (Fr.k (wX4_readStatement_b32v1 (by omega) (by omega) hM))))))) (wX4_readStatement_b32 (by omega) hM))
theorem wX4_readText_b84 {k0 : Nat} {k1 : Nat} {k2 : Nat} {M : Mem} (hM : KS SLc M0 M) : Fr SLc M0 (mX4_readText_b84 k0 k1 k2 M) := by
  unfold mX4_readText_b84
  exact (Fr.i (Fr.ok hM) (Fr.ok hM))
theorem wX4_readText_b47 {k0 : Nat} {k1 : Nat} {k2 : Nat} {ih47 : Int32 → Mem → Option (Mem × Int32)} {x4 : Int32} {M : Mem} (wk0 : k0 = 2) (wk2 : k2 = 13) (hih47 : ∀ (v0 : Int32) (v1 : Mem), KS SLc M0 v1 → Fr SLc M0 (ih47 v0 v1)) (hM : KS SLc M0 M) : Fr SLc M0 (mX4_readText_b47 k0 k1 k2 ih47 x4 M) := by
  unfold mX4_readText_b47
  exact (Fr.i (wX4_readText_b84 hM) (Fr.i (wX4_readText_b84 hM) (Fr.i (Fr.m (wX4_readStatement (by omega) (by omega) hM) (fun M25 _ hM25 => (Fr.m (wX4_nextToken (by omega) hM25) (fun M28 _ hM28 => (Fr.b (fun x4_78 => (hih47 _ _ hM28))))))) (wX4_readText_b84 hM))))
theorem wX4_readText_l47_n {k0 : Nat} {k1 : Nat} {k2 : Nat} (wk0 : k0 = 2) (wk2 : k2 = 13) : ∀ (n : Nat) (v0 : Int32) (v1 : Mem), KS SLc M0 v1 → Fr SLc M0 (mX4_readText_l47 k0 k1 k2 n v0 v1) := by
  intro n
  induction n with
  | zero => intro v0 v1 h; exact Fr.n
  | succ n IH => intro v0 v1 h; exact wX4_readText_b47 (by omega) (by omega) IH h
theorem wX4_readText_l47 {k0 : Nat} {k1 : Nat} {k2 : Nat} {v0 : Int32} {v1 : Mem} (wk0 : k0 = 2) (wk2 : k2 = 13) {n : Nat} (h : KS SLc M0 v1) : Fr SLc M0 (mX4_readText_l47 k0 k1 k2 n v0 v1) := wX4_readText_l47_n wk0 wk2  n v0 v1 h
theorem wX4_readText_b18 {k0 : Nat} {k1 : Nat} {k2 : Nat} {y1 : Int32} {M : Mem} (wk0 : k0 = 2) (wk2 : k2 = 13) (hM : KS SLc M0 M) : Fr SLc M0 (mX4_readText_b18 k0 k1 k2 y1 M) := by
  unfold mX4_readText_b18
  exact (Fr.bw (by unfold SLc; omega) hM (fun M5 hM5 => (Fr.bw (by unfold SLc; omega) hM5 (fun M7 hM7 => (Fr.bw (by unfold SLc; omega) hM7 (fun M9 hM9 => (Fr.bw (by unfold SLc; omega) hM9 (fun M11 hM11 => (Fr.m (wX1_clear (by omega) hM11) (fun M15 _ hM15 => (Fr.m (wX4_nextToken (by omega) hM15) (fun M18 _ hM18 => (wX4_readText_l47 (by omega) (by omega) hM18)))))))))))))
theorem wX4_readText {k0 : Nat} {k1 : Nat} {k2 : Nat} {x2 : Int32} {M : Mem} (wk0 : k0 = 2) (wk2 : k2 = 13) (hM : KS SLc M0 M) : Fr SLc M0 (mX4_readText k0 k1 k2 x2 M) := by
  unfold mX4_readText
  exact (Fr.k (Fr.bw (by unfold SLc; omega) hM (fun M1 hM1 => (Fr.i (wX4_readText_b18 (by omega) (by omega) hM1) (wX4_readText_b18 (by omega) (by omega) hM1)))))
end FFldc
def SLr (k j : Nat) : Prop := k = 137 ∨ (k = 135 ∧ j ≠ 4)
section FFldr
variable {M0 : Mem}
theorem wX7_lay {x1 : Int32} {x2 : Int32} {x3 : Int32} {x4 : Int32} {M : Mem} (hM : KS SLr M0 M) : Fr SLr M0 (mX7_lay 135 x1 x2 x3 x4 M) := by
  unfold mX7_lay
  exact (Fr.k (Fr.bw (by unfold SLr; omega) hM (fun M3 hM3 => (Fr.k (Fr.bw (by unfold SLr; omega) hM3 (fun M6 hM6 => (Fr.k (Fr.bw (by unfold SLr; omega) hM6 (fun M9 hM9 => (Fr.ok hM9))))))))))
theorem wX7_reset_b2 {ih2 : Int32 → Mem → Option (Mem × Unit)} {x1 : Int32} {M : Mem} (hih2 : ∀ (v0 : Int32) (v1 : Mem), KS SLr M0 v1 → Fr SLr M0 (ih2 v0 v1)) (hM : KS SLr M0 M) : Fr SLr M0 (mX7_reset_b2 135 ih2 x1 M) := by
  unfold mX7_reset_b2
  exact (Fr.i (Fr.m (wX7_lay hM) (fun M4 _ hM4 => (Fr.m (wX7_lay hM4) (fun M7 _ hM7 => (Fr.m (wX7_lay hM7) (fun M10 _ hM10 => (Fr.m (wX7_lay hM10) (fun M13 _ hM13 => (Fr.m (wX7_lay hM13) (fun M16 _ hM16 => (Fr.ok hM16))))))))))) (Fr.k (Fr.bw (by unfold SLr; omega) hM (fun M19 hM19 => (Fr.b (fun x1_15 => (hih2 _ _ hM19)))))))
theorem wX7_reset_l2_n  : ∀ (n : Nat) (v0 : Int32) (v1 : Mem), KS SLr M0 v1 → Fr SLr M0 (mX7_reset_l2 135 n v0 v1) := by
  intro n
  induction n with
  | zero => intro v0 v1 h; exact Fr.n
  | succ n IH => intro v0 v1 h; exact wX7_reset_b2  IH h
theorem wX7_reset_l2  {v0 : Int32} {v1 : Mem} {n : Nat} (h : KS SLr M0 v1) : Fr SLr M0 (mX7_reset_l2 135 n v0 v1) := wX7_reset_l2_n   n v0 v1 h
theorem wX7_reset {M : Mem} (hM : KS SLr M0 M) : Fr SLr M0 (mX7_reset 135 M) := by
  unfold mX7_reset
  exact (wX7_reset_l2 hM)
theorem wX7_advance_b26 {ih0 : Mem → Option (Mem × Int32)} {M : Mem} (hih0 : ∀ (v0 : Mem), KS SLr M0 v0 → Fr SLr M0 (ih0 v0)) (hM : KS SLr M0 M) : Fr SLr M0 (mX7_advance_b26 135 ih0 M) := by
  unfold mX7_advance_b26
  exact (Fr.bw (by unfold SLr; omega) hM (fun M5 hM5 => (hih0 _ hM5)))
theorem wX7_advance_b230 {y1 : Int32} {M : Mem} (hM : KS SLr M0 M) : Fr SLr M0 (mX7_advance_b230 135 y1 M) := by
  unfold mX7_advance_b230
  exact (Fr.bw (by unfold SLr; omega) hM (fun M42 hM42 => (Fr.ok hM42)))
theorem wX7_advance_b195 {ih141 : Mem → Option (Mem × Int32)} {y1 : Int32} {M : Mem} (hih141 : ∀ (v0 : Mem), KS SLr M0 v0 → Fr SLr M0 (ih141 v0)) (hM : KS SLr M0 M) : Fr SLr M0 (mX7_advance_b195 135 ih141 y1 M) := by
  unfold mX7_advance_b195
  exact (Fr.bw (by unfold SLr; omega) hM (fun M45 hM45 => (Fr.bw (by unfold SLr; omega) hM45 (fun M47 hM47 => (hih141 _ hM47)))))
theorem wX7_advance_b141 {ih141 : Mem → Option (Mem × Int32)} {M : Mem} (hih141 : ∀ (v0 : Mem), KS SLr M0 v0 → Fr SLr M0 (ih141 v0)) (hM : KS SLr M0 M) : Fr SLr M0 (mX7_advance_b141 135 ih141 M) := by
  unfold mX7_advance_b141
  exact (Fr.c (fun r35 => (Fr.c (fun r38 => (Fr.i (Fr.i (wX7_advance_b230 hM) (wX7_advance_b230 hM)) (Fr.i (wX7_advance_b195 hih141 hM) (Fr.c (fun r50 => (wX7_advance_b195 hih141 hM)))))))))
theorem wX7_advance_l141_n  : ∀ (n : Nat) (v0 : Mem), KS SLr M0 v0 → Fr SLr M0 (mX7_advance_l141 135 n v0) := by
  intro n
  induction n with
  | zero => intro v0 h; exact Fr.n
  | succ n IH => intro v0 h; exact wX7_advance_b141  IH h
theorem wX7_advance_l141  {v0 : Mem} {n : Nat} (h : KS SLr M0 v0) : Fr SLr M0 (mX7_advance_l141 135 n v0) := wX7_advance_l141_n   n v0 h
theorem wX7_advance_b123 {y1 : Int32} {M : Mem} (hM : KS SLr M0 M) : Fr SLr M0 (mX7_advance_b123 135 y1 M) := by
  unfold mX7_advance_b123
  exact (Fr.bw (by unfold SLr; omega) hM (fun M60 hM60 => (Fr.ok hM60)))
theorem wX7_advance_b76 {ih76 : Mem → Option (Mem × Int32)} {M : Mem} (hih76 : ∀ (v0 : Mem), KS SLr M0 v0 → Fr SLr M0 (ih76 v0)) (hM : KS SLr M0 M) : Fr SLr M0 (mX7_advance_b76 135 ih76 M) := by
  unfold mX7_advance_b76
  exact (Fr.c (fun r53 => (Fr.c (fun r56 => (Fr.i (Fr.i (wX7_advance_b123 hM) (wX7_advance_b123 hM)) (Fr.bw (by unfold SLr; omega) hM (fun M62 hM62 => (hih76 _ hM62))))))))
theorem wX7_advance_l76_n  : ∀ (n : Nat) (v0 : Mem), KS SLr M0 v0 → Fr SLr M0 (mX7_advance_l76 135 n v0) := by
  intro n
  induction n with
  | zero => intro v0 h; exact Fr.n
  | succ n IH => intro v0 h; exact wX7_advance_b76  IH h
theorem wX7_advance_l76  {v0 : Mem} {n : Nat} (h : KS SLr M0 v0) : Fr SLr M0 (mX7_advance_l76 135 n v0) := wX7_advance_l76_n   n v0 h
theorem wX7_advance_b0 {ih0 : Mem → Option (Mem × Int32)} {M : Mem} (hih0 : ∀ (v0 : Mem), KS SLr M0 v0 → Fr SLr M0 (ih0 v0)) (hM : KS SLr M0 M) : Fr SLr M0 (mX7_advance_b0 135 ih0 M) := by
  unfold mX7_advance_b0
  exact (Fr.c (fun r2 => (Fr.i (wX7_advance_b26 hih0 hM) (Fr.c (fun r8 => (Fr.i (wX7_advance_b26 hih0 hM) (Fr.bw (by unfold SLr; omega) hM (fun M11 hM11 => (Fr.c (fun r14 => (Fr.i (Fr.bw (by unfold SLr; omega) hM11 (fun M64 hM64 => (Fr.ok hM64))) (Fr.c (fun r18 => (Fr.i (Fr.c (fun r22 => (Fr.i (Fr.bw (by unfold SLr; omega) hM11 (fun M25 hM25 => (Fr.i (Fr.bw (by unfold SLr; omega) hM25 (fun M30 hM30 => (Fr.ok hM30))) (Fr.bw (by unfold SLr; omega) hM25 (fun M28 hM28 => (Fr.ok hM28)))))) (Fr.bw (by unfold SLr; omega) hM11 (fun M32 hM32 => (wX7_advance_l141 hM32)))))) (wX7_advance_l76 hM11)))))))))))))))
theorem wX7_advance_l0_n  : ∀ (n : Nat) (v0 : Mem), KS SLr M0 v0 → Fr SLr M0 (mX7_advance_l0 135 n v0) := by
  intro n
  induction n with
  | zero => intro v0 h; exact Fr.n
  | succ n IH => intro v0 h; exact wX7_advance_b0  IH h
theorem wX7_advance_l0  {v0 : Mem} {n : Nat} (h : KS SLr M0 v0) : Fr SLr M0 (mX7_advance_l0 135 n v0) := wX7_advance_l0_n   n v0 h
theorem wX7_advance {M : Mem} (hM : KS SLr M0 M) : Fr SLr M0 (mX7_advance 135 M) := by
  unfold mX7_advance
  exact (wX7_advance_l0 hM)
theorem wX7_fail_b14 {y1 : Int32} {M : Mem} (hM : KS SLr M0 M) : Fr SLr M0 (mX7_fail_b14 135 y1 M) := by
  unfold mX7_fail_b14
  exact (Fr.bw (by unfold SLr; omega) hM (fun M2 hM2 => (Fr.bw (by unfold SLr; omega) hM2 (fun M4 hM4 => (Fr.ok hM4)))))
theorem wX7_fail {x1 : Int32} {M : Mem} (hM : KS SLr M0 M) : Fr SLr M0 (mX7_fail 135 x1 M) := by
  unfold mX7_fail
  exact (Fr.i (wX7_fail_b14 hM) (wX7_fail_b14 hM))
theorem wX7_number {x1 : Int32} {x2 : Int32} {x3 : Int32} {M : Mem} (hM : KS SLr M0 M) : Fr SLr M0 (mX7_number 135 x1 x2 x3 M) := by
  unfold mX7_number
  exact (Fr.i (Fr.c (fun r3 => (Fr.i (Fr.m (wX7_fail hM) (fun M15 r14 hM15 => (Fr.k (Fr.ok hM15)))) (Fr.k (Fr.bw (by unfold SLr; omega) hM (fun M8 hM8 => (Fr.m (wX7_advance hM8) (fun M11 r10 hM11 => (Fr.k (Fr.ok hM11)))))))))) (Fr.m (wX7_fail hM) (fun M19 r18 hM19 => (Fr.k (Fr.ok hM19)))))
theorem wX7_closed {M : Mem} (hM : KS SLr M0 M) : Fr SLr M0 (mX7_closed 135 M) := by
  unfold mX7_closed
  exact (Fr.i (Fr.m (wX7_advance hM) (fun M4 r3 hM4 => (Fr.k (Fr.ok hM4)))) (Fr.m (wX7_fail hM) (fun M8 r7 hM8 => (Fr.k (Fr.ok hM8)))))
theorem wX7_sheetStatement {M : Mem} (hM : KS SLr M0 M) : Fr SLr M0 (mX7_sheetStatement 135 M) := by
  unfold mX7_sheetStatement
  exact (Fr.m (wX7_advance hM) (fun M3 r2 hM3 => (Fr.m (wX7_number hM3) (fun M6 r5 hM6 => (Fr.i (Fr.ok hM6) (Fr.m (wX7_number hM6) (fun M10 r9 hM10 => (Fr.i (Fr.ok hM10) (Fr.m (wX7_number hM10) (fun M14 r13 hM14 => (Fr.i (Fr.ok hM14) (Fr.ok hM14))))))))))))
theorem wX7_legStatement {M : Mem} (hM : KS SLr M0 M) : Fr SLr M0 (mX7_legStatement 135 M) := by
  unfold mX7_legStatement
  exact (Fr.k (Fr.i (Fr.m (wX7_advance hM) (fun M5 r4 hM5 => (Fr.m (wX7_number hM5) (fun M8 r7 hM8 => (Fr.i (Fr.ok hM8) (Fr.k (Fr.bw (by unfold SLr; omega) hM8 (fun M12 hM12 => (Fr.ok hM12))))))))) (Fr.m (wX7_fail hM) (fun M15 r14 hM15 => (Fr.k (Fr.ok hM15))))))
theorem wX7_bendStatement_b74 {y1 : Int32} {y2 : Int32} {M : Mem} (hM : KS SLr M0 M) : Fr SLr M0 (mX7_bendStatement_b74 135 y1 y2 M) := by
  unfold mX7_bendStatement_b74
  exact (Fr.k (Fr.bw (by unfold SLr; omega) hM (fun M16 hM16 => (Fr.k (Fr.k (Fr.bw (by unfold SLr; omega) hM16 (fun M20 hM20 => (Fr.k (Fr.k (Fr.bw (by unfold SLr; omega) hM20 (fun M24 hM24 => (Fr.ok hM24))))))))))))
theorem wX7_bendStatement {x1 : Int32} {M : Mem} (hM : KS SLr M0 M) : Fr SLr M0 (mX7_bendStatement 135 x1 M) := by
  unfold mX7_bendStatement
  exact (Fr.k (Fr.i (Fr.m (wX7_fail hM) (fun M31 r30 hM31 => (Fr.k (Fr.ok hM31)))) (Fr.k (Fr.b (fun x2_21 => (Fr.i (Fr.m (wX7_fail hM) (fun M27 r26 hM27 => (Fr.k (Fr.ok hM27)))) (Fr.m (wX7_advance hM) (fun M8 r7 hM8 => (Fr.m (wX7_number hM8) (fun M11 r10 hM11 => (Fr.i (Fr.ok hM11) (Fr.i (wX7_bendStatement_b74 hM11) (wX7_bendStatement_b74 hM11)))))))))))))
theorem wX7_backStatement_b48 {x1 : Int32} {y0 : Int32} {M : Mem} (hM : KS SLr M0 M) : Fr SLr M0 (mX7_backStatement_b48 135 x1 y0 M) := by
  unfold mX7_backStatement_b48
  exact (Fr.m (wX7_number hM) (fun M11 r10 hM11 => (Fr.i (Fr.ok hM11) (Fr.m (wX7_number hM11) (fun M15 r14 hM15 => (Fr.i (Fr.ok hM15) (Fr.k (Fr.k (Fr.bw (by unfold SLr; omega) hM15 (fun M20 hM20 => (Fr.ok hM20)))))))))))
theorem wX7_backStatement {M : Mem} (hM : KS SLr M0 M) : Fr SLr M0 (mX7_backStatement 135 M) := by
  unfold mX7_backStatement
  exact (Fr.k (Fr.b (fun x1_7 => (Fr.i (Fr.m (wX7_fail hM) (fun M23 r22 hM23 => (Fr.k (Fr.ok hM23)))) (Fr.m (wX7_advance hM) (fun M6 r5 hM6 => (Fr.i (wX7_backStatement_b48 hM6) (Fr.k (wX7_backStatement_b48 hM6)))))))))
theorem wX7_toolStatement_b59 {M : Mem} (hM : KS SLr M0 M) : Fr SLr M0 (mX7_toolStatement_b59 135 M) := by
  unfold mX7_toolStatement_b59
  exact (Fr.ok hM)
theorem wX7_toolStatement_b50 {y1 : Int32} {y2 : Int32} {M : Mem} (hM : KS SLr M0 M) : Fr SLr M0 (mX7_toolStatement_b50 135 y1 y2 M) := by
  unfold mX7_toolStatement_b50
  exact (Fr.m (wX7_number hM) (fun M13 r12 hM13 => (Fr.i (Fr.ok hM13) (wX7_toolStatement_b59 hM13))))
theorem wX7_toolStatement {x1 : Int32} {M : Mem} (hM : KS SLr M0 M) : Fr SLr M0 (mX7_toolStatement 135 x1 M) := by
  unfold mX7_toolStatement
  exact (Fr.m (wX7_advance hM) (fun M3 r2 hM3 => (Fr.b (fun x2_11 => (Fr.m (wX7_number hM3) (fun M7 r6 hM7 => (Fr.i (Fr.ok hM7) (Fr.i (wX7_toolStatement_b59 hM7) (Fr.i (Fr.k (wX7_toolStatement_b50 hM7)) (wX7_toolStatement_b50 hM7))))))))))
theorem wX7_costStatement {M : Mem} (hM : KS SLr M0 M) : Fr SLr M0 (mX7_costStatement 135 M) := by
  unfold mX7_costStatement
  exact (Fr.m (wX7_advance hM) (fun M3 r2 hM3 => (Fr.m (wX7_number hM3) (fun M6 r5 hM6 => (Fr.i (Fr.ok hM6) (Fr.m (wX7_number hM6) (fun M10 r9 hM10 => (Fr.i (Fr.ok hM10) (Fr.m (wX7_number hM10) (fun M14 r13 hM14 => (Fr.i (Fr.ok hM14) (Fr.ok hM14))))))))))))
theorem wX7_statement_b46 {M : Mem} (hM : KS SLr M0 M) : Fr SLr M0 (mX7_statement_b46 135 M) := by
  unfold mX7_statement_b46
  exact (Fr.c (fun r14 => (Fr.m (wX7_bendStatement hM) (fun M18 r17 hM18 => (Fr.k (Fr.ok hM18))))))
theorem wX7_statement {M : Mem} (hM : KS SLr M0 M) : Fr SLr M0 (mX7_statement 135 M) := by
  unfold mX7_statement
  exact (Fr.c (fun r2 => (Fr.i (Fr.c (fun r6 => (Fr.i (Fr.c (fun r10 => (Fr.i (Fr.c (fun r21 => (Fr.i (Fr.c (fun r25 => (Fr.i (Fr.c (fun r29 => (Fr.i (Fr.c (fun r33 => (Fr.i (Fr.m (wX7_fail hM) (fun M42 r41 hM42 => (Fr.k (Fr.ok hM42)))) (Fr.m (wX7_toolStatement hM) (fun M38 r37 hM38 => (Fr.k (Fr.ok hM38))))))) (Fr.m (wX7_costStatement hM) (fun M46 r45 hM46 => (Fr.k (Fr.ok hM46))))))) (Fr.m (wX7_backStatement hM) (fun M50 r49 hM50 => (Fr.k (Fr.ok hM50))))))) (wX7_statement_b46 hM)))) (wX7_statement_b46 hM)))) (Fr.m (wX7_legStatement hM) (fun M54 r53 hM54 => (Fr.k (Fr.ok hM54))))))) (Fr.m (wX7_sheetStatement hM) (fun M58 r57 hM58 => (Fr.k (Fr.ok hM58)))))))
end FFldr
/-! reading a text makes no step (printed) -/
def SLx (k j : Nat) : Prop := k = 2 ∨ k = 3 ∨ (14 ≤ k ∧ k ≤ 20) ∨ (k = 13 ∧ j ≠ 14)
section FFldx
variable {M0 : Mem}
theorem xX1_putSheet {k0 : Nat} {x1 : Int32} {x2 : Int32} {x3 : Int32} {M : Mem} (wk0 : k0 = 13) (hM : KS SLx M0 M) : Fr SLx M0 (mX1_putSheet k0 x1 x2 x3 M) := by
  unfold mX1_putSheet
  exact (Fr.bw (by unfold SLx; omega) hM (fun M1 hM1 => (Fr.bw (by unfold SLx; omega) hM1 (fun M3 hM3 => (Fr.bw (by unfold SLx; omega) hM3 (fun M5 hM5 => (Fr.ok hM5)))))))
theorem xX1_putTool {k0 : Nat} {x1 : Int32} {x2 : Int32} {x3 : Int32} {M : Mem} (wk0 : k0 = 13) (hM : KS SLx M0 M) : Fr SLx M0 (mX1_putTool k0 x1 x2 x3 M) := by
  unfold mX1_putTool
  exact (Fr.i (Fr.ok hM) (Fr.i (Fr.ok hM) (Fr.k (Fr.bw (by unfold SLx; omega) hM (fun M5 hM5 => (Fr.k (Fr.bw (by unfold SLx; omega) hM5 (fun M8 hM8 => (Fr.ok hM8)))))))))
theorem xX1_putCosts {k0 : Nat} {x1 : Int32} {x2 : Int32} {x3 : Int32} {M : Mem} (wk0 : k0 = 13) (hM : KS SLx M0 M) : Fr SLx M0 (mX1_putCosts k0 x1 x2 x3 M) := by
  unfold mX1_putCosts
  exact (Fr.bw (by unfold SLx; omega) hM (fun M1 hM1 => (Fr.bw (by unfold SLx; omega) hM1 (fun M3 hM3 => (Fr.bw (by unfold SLx; omega) hM3 (fun M5 hM5 => (Fr.ok hM5)))))))
theorem xX1_addBack {k0 : Nat} {x1 : Int32} {x2 : Int32} {M : Mem} (wk0 : k0 = 13) (hM : KS SLx M0 M) : Fr SLx M0 (mX1_addBack k0 x1 x2 M) := by
  unfold mX1_addBack
  exact (Fr.i (Fr.ok hM) (Fr.k (Fr.bw (by unfold SLx; omega) hM (fun M4 hM4 => (Fr.k (Fr.bw (by unfold SLx; omega) hM4 (fun M7 hM7 => (Fr.bw (by unfold SLx; omega) hM7 (fun M8 hM8 => (Fr.ok hM8))))))))))
theorem xX1_addLeg_b47 {k0 : Nat} {M : Mem} (wk0 : k0 = 13) (hM : KS SLx M0 M) : Fr SLx M0 (mX1_addLeg_b47 k0 M) := by
  unfold mX1_addLeg_b47
  exact (Fr.bw (by unfold SLx; omega) hM (fun M6 hM6 => (Fr.ok hM6)))
theorem xX1_addLeg {k0 : Nat} {x1 : Int32} {x2 : Int32} {M : Mem} (wk0 : k0 = 13) (hM : KS SLx M0 M) : Fr SLx M0 (mX1_addLeg k0 x1 x2 M) := by
  unfold mX1_addLeg
  exact (Fr.i (Fr.ok hM) (Fr.k (Fr.bw (by unfold SLx; omega) hM (fun M4 hM4 => (Fr.i (xX1_addLeg_b47 (by omega) hM4) (Fr.i (xX1_addLeg_b47 (by omega) hM4) (Fr.bw (by unfold SLx; omega) hM4 (fun M9 hM9 => (xX1_addLeg_b47 (by omega) hM9)))))))))
theorem xX4_takeWord_b39 {k0 : Nat} {M : Mem} (wk0 : k0 = 2) (hM : KS SLx M0 M) : Fr SLx M0 (mX4_takeWord_b39 k0 M) := by
  unfold mX4_takeWord_b39
  exact (Fr.i (Fr.bw (by unfold SLx; omega) hM (fun M3 hM3 => (Fr.ok hM3))) (Fr.bw (by unfold SLx; omega) hM (fun M5 hM5 => (Fr.ok hM5))))
theorem xX4_takeWord_b0 {k0 : Nat} {ih0 : Mem → Option (Mem × Unit)} {M : Mem} (wk0 : k0 = 2) (hih0 : ∀ (v0 : Mem), KS SLx M0 v0 → Fr SLx M0 (ih0 v0)) (hM : KS SLx M0 M) : Fr SLx M0 (mX4_takeWord_b0 k0 ih0 M) := by
  unfold mX4_takeWord_b0
  exact (Fr.i (xX4_takeWord_b39 (by omega) hM) (Fr.k (Fr.k (Fr.c (fun r10 => (Fr.i (xX4_takeWord_b39 (by omega) hM) (Fr.bw (by unfold SLx; omega) hM (fun M13 hM13 => (hih0 _ hM13)))))))))
theorem xX4_takeWord_l0_n {k0 : Nat} (wk0 : k0 = 2) : ∀ (n : Nat) (v0 : Mem), KS SLx M0 v0 → Fr SLx M0 (mX4_takeWord_l0 k0 n v0) := by
  intro n
  induction n with
  | zero => intro v0 h; exact Fr.n
  | succ n IH => intro v0 h; exact xX4_takeWord_b0 (by omega) IH h
theorem xX4_takeWord_l0 {k0 : Nat} {v0 : Mem} (wk0 : k0 = 2) {n : Nat} (h : KS SLx M0 v0) : Fr SLx M0 (mX4_takeWord_l0 k0 n v0) := xX4_takeWord_l0_n wk0  n v0 h
theorem xX4_takeWord {k0 : Nat} {M : Mem} (wk0 : k0 = 2) (hM : KS SLx M0 M) : Fr SLx M0 (mX4_takeWord k0 M) := by
  unfold mX4_takeWord
  exact (xX4_takeWord_l0 (by omega) hM)
theorem xX4_takeNumber_b76 {k0 : Nat} {M : Mem} (wk0 : k0 = 2) (hM : KS SLx M0 M) : Fr SLx M0 (mX4_takeNumber_b76 k0 M) := by
  unfold mX4_takeNumber_b76
  exact (Fr.i (Fr.bw (by unfold SLx; omega) hM (fun M3 hM3 => (Fr.ok hM3))) (Fr.bw (by unfold SLx; omega) hM (fun M5 hM5 => (Fr.ok hM5))))
theorem xX4_takeNumber_b63 {k0 : Nat} {ih0 : Mem → Option (Mem × Unit)} {M : Mem} (wk0 : k0 = 2) (hih0 : ∀ (v0 : Mem), KS SLx M0 v0 → Fr SLx M0 (ih0 v0)) (hM : KS SLx M0 M) : Fr SLx M0 (mX4_takeNumber_b63 k0 ih0 M) := by
  unfold mX4_takeNumber_b63
  exact (Fr.bw (by unfold SLx; omega) hM (fun M14 hM14 => (hih0 _ hM14)))
theorem xX4_takeNumber_b0 {k0 : Nat} {ih0 : Mem → Option (Mem × Unit)} {M : Mem} (wk0 : k0 = 2) (hih0 : ∀ (v0 : Mem), KS SLx M0 v0 → Fr SLx M0 (ih0 v0)) (hM : KS SLx M0 M) : Fr SLx M0 (mX4_takeNumber_b0 k0 ih0 M) := by
  unfold mX4_takeNumber_b0
  exact (Fr.i (xX4_takeNumber_b76 (by omega) hM) (Fr.k (Fr.k (Fr.c (fun r10 => (Fr.i (xX4_takeNumber_b76 (by omega) hM) (Fr.i (xX4_takeNumber_b63 (by omega) hih0 hM) (Fr.k (Fr.k (Fr.bw (by unfold SLx; omega) hM (fun M18 hM18 => (xX4_takeNumber_b63 (by omega) hih0 hM18))))))))))))
theorem xX4_takeNumber_l0_n {k0 : Nat} (wk0 : k0 = 2) : ∀ (n : Nat) (v0 : Mem), KS SLx M0 v0 → Fr SLx M0 (mX4_takeNumber_l0 k0 n v0) := by
  intro n
  induction n with
  | zero => intro v0 h; exact Fr.n
  | succ n IH => intro v0 h; exact xX4_takeNumber_b0 (by omega) IH h
theorem xX4_takeNumber_l0 {k0 : Nat} {v0 : Mem} (wk0 : k0 = 2) {n : Nat} (h : KS SLx M0 v0) : Fr SLx M0 (mX4_takeNumber_l0 k0 n v0) := xX4_takeNumber_l0_n wk0  n v0 h
theorem xX4_takeNumber {k0 : Nat} {M : Mem} (wk0 : k0 = 2) (hM : KS SLx M0 M) : Fr SLx M0 (mX4_takeNumber k0 M) := by
  unfold mX4_takeNumber
  exact (xX4_takeNumber_l0 (by omega) hM)
theorem xX4_nextToken_b143 {k0 : Nat} {y1 : Int32} {M : Mem} (wk0 : k0 = 2) (hM : KS SLx M0 M) : Fr SLx M0 (mX4_nextToken_b143 k0 y1 M) := by
  unfold mX4_nextToken_b143
  exact (Fr.bw (by unfold SLx; omega) hM (fun M24 hM24 => (Fr.bw (by unfold SLx; omega) hM24 (fun M26 hM26 => (Fr.ok hM26)))))
theorem xX4_nextToken_b47 {k0 : Nat} {M : Mem} (wk0 : k0 = 2) (hM : KS SLx M0 M) : Fr SLx M0 (mX4_nextToken_b47 k0 M) := by
  unfold mX4_nextToken_b47
  exact (Fr.bw (by unfold SLx; omega) hM (fun M4 hM4 => (Fr.bw (by unfold SLx; omega) hM4 (fun M6 hM6 => (Fr.i (Fr.k (Fr.k (Fr.c (fun r12 => (Fr.i (Fr.k (Fr.k (Fr.c (fun r18 => (Fr.i (Fr.k (Fr.k (Fr.i (xX4_nextToken_b143 (by omega) hM6) (xX4_nextToken_b143 (by omega) hM6)))) (Fr.m (xX4_takeNumber (by omega) hM6) (fun M30 _ hM30 => (Fr.ok hM30)))))))) (Fr.m (xX4_takeWord (by omega) hM6) (fun M33 _ hM33 => (Fr.ok hM33)))))))) (Fr.bw (by unfold SLx; omega) hM6 (fun M34 hM34 => (Fr.ok hM34))))))))
theorem xX4_nextToken_b8 {k0 : Nat} {ih8 : Mem → Option (Mem × Unit)} {M : Mem} (wk0 : k0 = 2) (hih8 : ∀ (v0 : Mem), KS SLx M0 v0 → Fr SLx M0 (ih8 v0)) (hM : KS SLx M0 M) : Fr SLx M0 (mX4_nextToken_b8 k0 ih8 M) := by
  unfold mX4_nextToken_b8
  exact (Fr.i (xX4_nextToken_b47 (by omega) hM) (Fr.k (Fr.k (Fr.c (fun r39 => (Fr.i (xX4_nextToken_b47 (by omega) hM) (Fr.bw (by unfold SLx; omega) hM (fun M42 hM42 => (hih8 _ hM42)))))))))
theorem xX4_nextToken_l8_n {k0 : Nat} (wk0 : k0 = 2) : ∀ (n : Nat) (v0 : Mem), KS SLx M0 v0 → Fr SLx M0 (mX4_nextToken_l8 k0 n v0) := by
  intro n
  induction n with
  | zero => intro v0 h; exact Fr.n
  | succ n IH => intro v0 h; exact xX4_nextToken_b8 (by omega) IH h
theorem xX4_nextToken_l8 {k0 : Nat} {v0 : Mem} (wk0 : k0 = 2) {n : Nat} (h : KS SLx M0 v0) : Fr SLx M0 (mX4_nextToken_l8 k0 n v0) := xX4_nextToken_l8_n wk0  n v0 h
theorem xX4_nextToken {k0 : Nat} {M : Mem} (wk0 : k0 = 2) (hM : KS SLx M0 M) : Fr SLx M0 (mX4_nextToken k0 M) := by
  unfold mX4_nextToken
  exact (Fr.bw (by unfold SLx; omega) hM (fun M1 hM1 => (xX4_nextToken_l8 (by omega) hM1)))
theorem xX4_accept_b139 {k0 : Nat} {k1 : Nat} {k2 : Nat} {y1 : Int32} {y2 : Int32} {M : Mem} (wk2 : k2 = 13) (hM : KS SLx M0 M) : Fr SLx M0 (mX4_accept_b139 k0 k1 k2 y1 y2 M) := by
  unfold mX4_accept_b139
  exact (Fr.m (xX1_addLeg (by omega) hM) (fun M12 _ hM12 => (Fr.ok hM12)))
theorem xX4_accept {k0 : Nat} {k1 : Nat} {k2 : Nat} {M : Mem} (wk2 : k2 = 13) (hM : KS SLx M0 M) : Fr SLx M0 (mX4_accept k0 k1 k2 M) := by
  unfold mX4_accept
  exact (Fr.c (fun r2 => (Fr.i (Fr.i (Fr.k (Fr.k (Fr.k (Fr.m (xX1_putSheet (by omega) hM) (fun M29 _ hM29 => (Fr.ok hM29)))))) (Fr.i (Fr.k (Fr.k (Fr.k (Fr.m (xX1_putCosts (by omega) hM) (fun M23 _ hM23 => (Fr.ok hM23)))))) (Fr.i (Fr.k (Fr.k (Fr.m (xX1_addBack (by omega) hM) (fun M17 _ hM17 => (Fr.ok hM17))))) (Fr.k (Fr.i (xX4_accept_b139 (by omega) hM) (xX4_accept_b139 (by omega) hM)))))) (Fr.k (Fr.k (Fr.m (xX1_putTool (by omega) hM) (fun M34 _ hM34 => (Fr.ok hM34))))))))
theorem xX4_readStatement_b148 {k0 : Nat} {k1 : Nat} {x3 : Int32} {M : Mem} (wk0 : k0 = 2) (hM : KS SLx M0 M) : Fr SLx M0 (mX4_readStatement_b148 k0 k1 x3 M) := by
  unfold mX4_readStatement_b148
  exact (Fr.bw (by unfold SLx; omega) hM (fun M8 hM8 => (Fr.bw (by unfold SLx; omega) hM8 (fun M10 hM10 => (Fr.ok hM10)))))
theorem xX4_readStatement_b131 {k0 : Nat} {k1 : Nat} {x3 : Int32} {M : Mem} (wk0 : k0 = 2) (hM : KS SLx M0 M) : Fr SLx M0 (mX4_readStatement_b131 k0 k1 x3 M) := by
  unfold mX4_readStatement_b131
  exact (Fr.i (xX4_readStatement_b148 (by omega) hM) (xX4_readStatement_b148 (by omega) hM))
theorem xX4_readStatement_b110 {k0 : Nat} {k1 : Nat} {ih55 : Int32 → Int32 → Mem → Option (Mem × Unit)} {x3 : Int32} {x4 : Int32} {M : Mem} (hih55 : ∀ (v0 : Int32) (v1 : Int32) (v2 : Mem), KS SLx M0 v2 → Fr SLx M0 (ih55 v0 v1 v2)) (hM : KS SLx M0 M) : Fr SLx M0 (mX4_readStatement_b110 k0 k1 ih55 x3 x4 M) := by
  unfold mX4_readStatement_b110
  exact (Fr.b (fun x4_110 => (hih55 _ _ _ hM)))
theorem xX4_readStatement_b55 {k0 : Nat} {k1 : Nat} {ih55 : Int32 → Int32 → Mem → Option (Mem × Unit)} {x3 : Int32} {x4 : Int32} {M : Mem} (wk0 : k0 = 2) (hih55 : ∀ (v0 : Int32) (v1 : Int32) (v2 : Mem), KS SLx M0 v2 → Fr SLx M0 (ih55 v0 v1 v2)) (hM : KS SLx M0 M) : Fr SLx M0 (mX4_readStatement_b55 k0 k1 ih55 x3 x4 M) := by
  unfold mX4_readStatement_b55
  exact (Fr.i (Fr.i (Fr.m (xX4_nextToken (by omega) hM) (fun M14 _ hM14 => (Fr.c (fun r16 => (xX4_readStatement_b131 (by omega) hM14))))) (xX4_readStatement_b131 (by omega) hM)) (Fr.k (Fr.bw (by unfold SLx; omega) hM (fun M20 hM20 => (Fr.i (xX4_readStatement_b110 hih55 hM20) (xX4_readStatement_b110 hih55 hM20))))))
theorem xX4_readStatement_l55_n {k0 : Nat} {k1 : Nat} (wk0 : k0 = 2) : ∀ (n : Nat) (v0 : Int32) (v1 : Int32) (v2 : Mem), KS SLx M0 v2 → Fr SLx M0 (mX4_readStatement_l55 k0 k1 n v0 v1 v2) := by
  intro n
  induction n with
  | zero => intro v0 v1 v2 h; exact Fr.n
  | succ n IH => intro v0 v1 v2 h; exact xX4_readStatement_b55 (by omega) IH h
theorem xX4_readStatement_l55 {k0 : Nat} {k1 : Nat} {v0 : Int32} {v1 : Int32} {v2 : Mem} (wk0 : k0 = 2) {n : Nat} (h : KS SLx M0 v2) : Fr SLx M0 (mX4_readStatement_l55 k0 k1 n v0 v1 v2) := xX4_readStatement_l55_n wk0  n v0 v1 v2 h
theorem xX4_readStatement_b51 {k0 : Nat} {k1 : Nat} {y0 : Int32} {M : Mem} (wk0 : k0 = 2) (hM : KS SLx M0 M) : Fr SLx M0 (mX4_readStatement_b51 k0 k1 y0 M) := by
  unfold mX4_readStatement_b51
  exact (xX4_readStatement_l55 (by omega) hM)
theorem xX4_readStatement_b32 {k0 : Nat} {k1 : Nat} {M : Mem} (wk0 : k0 = 2) (hM : KS SLx M0 M) : Fr SLx M0 (mX4_readStatement_b32 k0 k1 M) := by
  unfold mX4_readStatement_b32
  exact (Fr.c (fun r3 => (xX4_readStatement_b51 (by omega) hM)))
theorem xX4_readStatement_b131v1 {k0 : Nat} {k1 : Nat} {w2 : Nat} {x3 : Int32} {M : Mem} (wk0 : k0 = 2) (wk1 : k1 = 13) (hM : KS SLx M0 M) : Fr SLx M0 (mX4_readStatement_b131v1 k0 k1 w2 x3 M) := by
  unfold mX4_readStatement_b131v1
  exact (Fr.i (Fr.m (xX4_accept (by omega) hM) (fun M37 _ hM37 => (Fr.ok hM37))) (xX4_readStatement_b148 (by omega) hM))
theorem xX4_readStatement_b110v1 {k0 : Nat} {k1 : Nat} {w2 : Nat} {ih55v1 : Int32 → Int32 → Mem → Option (Mem × Unit)} {x3 : Int32} {x4 : Int32} {M : Mem} (hih55v1 : ∀ (v0 : Int32) (v1 : Int32) (v2 : Mem), KS SLx M0 v2 → Fr SLx M0 (ih55v1 v0 v1 v2)) (hM : KS SLx M0 M) : Fr SLx M0 (mX4_readStatement_b110v1 k0 k1 w2 ih55v1 x3 x4 M) := by
  unfold mX4_readStatement_b110v1
  exact (Fr.b (fun x4_110 => (hih55v1 _ _ _ hM)))
theorem xX4_readStatement_b55v1 {k0 : Nat} {k1 : Nat} {w2 : Nat} {ih55v1 : Int32 → Int32 → Mem → Option (Mem × Unit)} {x3 : Int32} {x4 : Int32} {M : Mem} (wk0 : k0 = 2) (wk1 : k1 = 13) (hih55v1 : ∀ (v0 : Int32) (v1 : Int32) (v2 : Mem), KS SLx M0 v2 → Fr SLx M0 (ih55v1 v0 v1 v2)) (hM : KS SLx M0 M) : Fr SLx M0 (mX4_readStatement_b55v1 k0 k1 w2 ih55v1 x3 x4 M) := by
  unfold mX4_readStatement_b55v1
  exact (Fr.i (Fr.i (Fr.m (xX4_nextToken (by omega) hM) (fun M40 _ hM40 => (Fr.c (fun r42 => (xX4_readStatement_b131v1 (by omega) (by omega) hM40))))) (xX4_readStatement_b131v1 (by omega) (by omega) hM)) (Fr.k (Fr.bw (by unfold SLx; omega) hM (fun M46 hM46 => (Fr.i (Fr.c (fun r50 => (Fr.i (xX4_readStatement_b110v1 hih55v1 hM46) (Fr.m (xX4_nextToken (by omega) hM46) (fun M55 _ hM55 => (Fr.c (fun r57 => (Fr.k (Fr.bw (by unfold SLx; omega) hM55 (fun M61 hM61 => (xX4_readStatement_b110v1 hih55v1 hM61))))))))))) (xX4_readStatement_b110v1 hih55v1 hM46))))))
theorem xX4_readStatement_l55v1_n {k0 : Nat} {k1 : Nat} {w2 : Nat} (wk0 : k0 = 2) (wk1 : k1 = 13) : ∀ (n : Nat) (v0 : Int32) (v1 : Int32) (v2 : Mem), KS SLx M0 v2 → Fr SLx M0 (mX4_readStatement_l55v1 k0 k1 w2 n v0 v1 v2) := by
  intro n
  induction n with
  | zero => intro v0 v1 v2 h; exact Fr.n
  | succ n IH => intro v0 v1 v2 h; exact xX4_readStatement_b55v1 (by omega) (by omega) IH h
theorem xX4_readStatement_l55v1 {k0 : Nat} {k1 : Nat} {w2 : Nat} {v0 : Int32} {v1 : Int32} {v2 : Mem} (wk0 : k0 = 2) (wk1 : k1 = 13) {n : Nat} (h : KS SLx M0 v2) : Fr SLx M0 (mX4_readStatement_l55v1 k0 k1 w2 n v0 v1 v2) := xX4_readStatement_l55v1_n wk0 wk1  n v0 v1 v2 h
theorem xX4_readStatement_b51v1 {k0 : Nat} {k1 : Nat} {w2 : Nat} {y0 : Int32} {M : Mem} (wk0 : k0 = 2) (wk1 : k1 = 13) (hM : KS SLx M0 M) : Fr SLx M0 (mX4_readStatement_b51v1 k0 k1 w2 y0 M) := by
  unfold mX4_readStatement_b51v1
  exact (xX4_readStatement_l55v1 (by omega) (by omega) hM)
theorem xX4_readStatement_b32v1 {k0 : Nat} {k1 : Nat} {ws0 : Nat} {M : Mem} (wk0 : k0 = 2) (wk1 : k1 = 13) (hM : KS SLx M0 M) : Fr SLx M0 (mX4_readStatement_b32v1 k0 k1 ws0 M) := by
  unfold mX4_readStatement_b32v1
  exact (Fr.c (fun r30 => (xX4_readStatement_b51v1 (by omega) (by omega) hM)))
theorem xX4_readStatement {k0 : Nat} {k1 : Nat} {M : Mem} (wk0 : k0 = 2) (wk1 : k1 = 13) (hM : KS SLx M0 M) : Fr SLx M0 (mX4_readStatement k0 k1 M) := by
  unfold mX4_readStatement
  exact (Fr.i (Fr.k (Fr.c (fun r25 => (Fr.o (xX4_readStatement_b32 (by omega) hM) (fun w27 => (Fr.k (xX4_readStatement_b32v1 (by omega) (by omega) hM))))))) (xX4_readStatement_b32 (by omega) hM))
theorem xX4_readText_b84 {k0 : Nat} {k1 : Nat} {k2 : Nat} {M : Mem} (hM : KS SLx M0 M) : Fr SLx M0 (mX4_readText_b84 k0 k1 k2 M) := by
  unfold mX4_readText_b84
  exact (Fr.i (Fr.ok hM) (Fr.ok hM))
theorem xX4_readText_b47 {k0 : Nat} {k1 : Nat} {k2 : Nat} {ih47 : Int32 → Mem → Option (Mem × Int32)} {x4 : Int32} {M : Mem} (wk0 : k0 = 2) (wk2 : k2 = 13) (hih47 : ∀ (v0 : Int32) (v1 : Mem), KS SLx M0 v1 → Fr SLx M0 (ih47 v0 v1)) (hM : KS SLx M0 M) : Fr SLx M0 (mX4_readText_b47 k0 k1 k2 ih47 x4 M) := by
  unfold mX4_readText_b47
  exact (Fr.i (xX4_readText_b84 hM) (Fr.i (xX4_readText_b84 hM) (Fr.i (Fr.m (xX4_readStatement (by omega) (by omega) hM) (fun M25 _ hM25 => (Fr.m (xX4_nextToken (by omega) hM25) (fun M28 _ hM28 => (Fr.b (fun x4_78 => (hih47 _ _ hM28))))))) (xX4_readText_b84 hM))))
theorem xX4_readText_l47_n {k0 : Nat} {k1 : Nat} {k2 : Nat} (wk0 : k0 = 2) (wk2 : k2 = 13) : ∀ (n : Nat) (v0 : Int32) (v1 : Mem), KS SLx M0 v1 → Fr SLx M0 (mX4_readText_l47 k0 k1 k2 n v0 v1) := by
  intro n
  induction n with
  | zero => intro v0 v1 h; exact Fr.n
  | succ n IH => intro v0 v1 h; exact xX4_readText_b47 (by omega) (by omega) IH h
theorem xX4_readText_l47 {k0 : Nat} {k1 : Nat} {k2 : Nat} {v0 : Int32} {v1 : Mem} (wk0 : k0 = 2) (wk2 : k2 = 13) {n : Nat} (h : KS SLx M0 v1) : Fr SLx M0 (mX4_readText_l47 k0 k1 k2 n v0 v1) := xX4_readText_l47_n wk0 wk2  n v0 v1 h
end FFldx
def Sfdc (k _ : Nat) : Prop := k ≤ 1
section FFfdc
variable {M0 : Mem}
theorem xX6_append_b40 {ih3 : Int32 → Int32 → Mem → Option (Mem × Unit)} {x1 : Int32} {x2 : Int32} {M : Mem} (hih3 : ∀ (v0 : Int32) (v1 : Int32) (v2 : Mem), KS Sfdc M0 v2 → Fr Sfdc M0 (ih3 v0 v1 v2)) (hM : KS Sfdc M0 M) : Fr Sfdc M0 (mX6_append_b40 0 ih3 x1 x2 M) := by
  unfold mX6_append_b40
  exact (Fr.b (fun x2_40 => (hih3 _ _ _ hM)))
theorem xX6_append_b3 {ih3 : Int32 → Int32 → Mem → Option (Mem × Unit)} {x1 : Int32} {x2 : Int32} {M : Mem} (hih3 : ∀ (v0 : Int32) (v1 : Int32) (v2 : Mem), KS Sfdc M0 v2 → Fr Sfdc M0 (ih3 v0 v1 v2)) (hM : KS Sfdc M0 M) : Fr Sfdc M0 (mX6_append_b3 0 ih3 x1 x2 M) := by
  unfold mX6_append_b3
  exact (Fr.i (Fr.ok hM) (Fr.i (xX6_append_b40 hih3 hM) (Fr.k (Fr.bw (by unfold Sfdc; omega) hM (fun M6 hM6 => (Fr.bw (by unfold Sfdc; omega) hM6 (fun M7 hM7 => (xX6_append_b40 hih3 hM7))))))))
theorem xX6_append_l3_n  : ∀ (n : Nat) (v0 : Int32) (v1 : Int32) (v2 : Mem), KS Sfdc M0 v2 → Fr Sfdc M0 (mX6_append_l3 0 n v0 v1 v2) := by
  intro n
  induction n with
  | zero => intro v0 v1 v2 h; exact Fr.n
  | succ n IH => intro v0 v1 v2 h; exact xX6_append_b3  IH h
theorem xX6_append_l3  {v0 : Int32} {v1 : Int32} {v2 : Mem} {n : Nat} (h : KS Sfdc M0 v2) : Fr Sfdc M0 (mX6_append_l3 0 n v0 v1 v2) := xX6_append_l3_n   n v0 v1 v2 h
theorem xX6_append {x1 : Int32} {M : Mem} (hM : KS Sfdc M0 M) : Fr Sfdc M0 (mX6_append 0 x1 M) := by
  unfold mX6_append
  exact (xX6_append_l3 hM)
theorem xX6_feed {x1 : Int32} {x2 : Int32} {x3 : Int32} {x4 : Int32} {x5 : Int32} {M : Mem} (hM : KS Sfdc M0 M) : Fr Sfdc M0 (mX6_feed 0 x1 x2 x3 x4 x5 M) := by
  unfold mX6_feed
  exact (Fr.i (Fr.m (xX6_append hM) (fun M4 _ hM4 => (Fr.m (xX6_append hM4) (fun M7 _ hM7 => (Fr.m (xX6_append hM7) (fun M10 _ hM10 => (Fr.m (xX6_append hM10) (fun M13 _ hM13 => (Fr.m (xX6_append hM13) (fun M16 _ hM16 => (Fr.ok hM16))))))))))) (Fr.ok hM))
end FFfdc
def Sfdr (k j : Nat) : Prop := k = 140 ∨ (k = 135 ∧ j ≠ 4)
section FFfdr
variable {M0 : Mem}
theorem xX7_append_b3 {ih3 : Int32 → Int32 → Mem → Option (Mem × Unit)} {x1 : Int32} {x2 : Int32} {M : Mem} (hih3 : ∀ (v0 : Int32) (v1 : Int32) (v2 : Mem), KS Sfdr M0 v2 → Fr Sfdr M0 (ih3 v0 v1 v2)) (hM : KS Sfdr M0 M) : Fr Sfdr M0 (mX7_append_b3 135 ih3 x1 x2 M) := by
  unfold mX7_append_b3
  exact (Fr.i (Fr.ok hM) (Fr.k (Fr.bw (by unfold Sfdr; omega) hM (fun M4 hM4 => (Fr.bw (by unfold Sfdr; omega) hM4 (fun M5 hM5 => (Fr.b (fun x2_33 => (hih3 _ _ _ hM5)))))))))
theorem xX7_append_l3_n  : ∀ (n : Nat) (v0 : Int32) (v1 : Int32) (v2 : Mem), KS Sfdr M0 v2 → Fr Sfdr M0 (mX7_append_l3 135 n v0 v1 v2) := by
  intro n
  induction n with
  | zero => intro v0 v1 v2 h; exact Fr.n
  | succ n IH => intro v0 v1 v2 h; exact xX7_append_b3  IH h
theorem xX7_append_l3  {v0 : Int32} {v1 : Int32} {v2 : Mem} {n : Nat} (h : KS Sfdr M0 v2) : Fr Sfdr M0 (mX7_append_l3 135 n v0 v1 v2) := xX7_append_l3_n   n v0 v1 v2 h
theorem xX7_append {x1 : Int32} {M : Mem} (hM : KS Sfdr M0 M) : Fr Sfdr M0 (mX7_append 135 x1 M) := by
  unfold mX7_append
  exact (xX7_append_l3 hM)
theorem xX7_feed {x1 : Int32} {x2 : Int32} {x3 : Int32} {x4 : Int32} {x5 : Int32} {M : Mem} (hM : KS Sfdr M0 M) : Fr Sfdr M0 (mX7_feed 135 x1 x2 x3 x4 x5 M) := by
  unfold mX7_feed
  exact (Fr.bw (by unfold Sfdr; omega) hM (fun M1 hM1 => (Fr.i (Fr.m (xX7_append hM1) (fun M6 _ hM6 => (Fr.m (xX7_append hM6) (fun M9 _ hM9 => (Fr.m (xX7_append hM9) (fun M12 _ hM12 => (Fr.m (xX7_append hM12) (fun M15 _ hM15 => (Fr.m (xX7_append hM15) (fun M18 _ hM18 => (Fr.ok hM18))))))))))) (Fr.ok hM1))))
end FFfdr
end
/-! part 60zz0c.fqry -/
section
/-! what questions write (printed) -/
def SQr (k j : Nat) : Prop := (k = 135 ∧ j ≠ 4) ∨ 141 ≤ k
section FFqry
variable {M0 : Mem}
theorem bX7_good {x1 : Int32} {M : Mem} (hM : KS SQr M0 M) : Fr SQr M0 (mX7_good 135 x1 M) := by
  unfold mX7_good
  exact (Fr.i (Fr.bw (Or.inl ⟨rfl, by decide⟩) hM (fun M2 hM2 => (Fr.k (Fr.ok hM2)))) (Fr.bw (Or.inl ⟨rfl, by decide⟩) hM (fun M5 hM5 => (Fr.k (Fr.ok hM5)))))
theorem bX7_good__b18 {y1 : Int32} {M : Mem} (hM : KS SQr M0 M) : Fr SQr M0 (mX7_good__b18 135 y1 M) := by
  unfold mX7_good__b18
  exact (Fr.bw (Or.inl ⟨rfl, by decide⟩) hM (fun M3 hM3 => (Fr.i (Fr.ok hM3) (Fr.ok hM3))))
theorem bX7_good_ {x1 : Int32} {x2 : Int32} {M : Mem} (hM : KS SQr M0 M) : Fr SQr M0 (mX7_good_ 135 x1 x2 M) := by
  unfold mX7_good_
  exact (Fr.i (bX7_good__b18 hM) (Fr.i (bX7_good__b18 hM) (bX7_good__b18 hM)))
theorem bX7_errorKind {M : Mem} (hM : KS SQr M0 M) : Fr SQr M0 (mX7_errorKind 135 M) := by
  unfold mX7_errorKind
  exact (Fr.bw (Or.inl ⟨rfl, by decide⟩) hM (fun M1 hM1 => (Fr.ok hM1)))
theorem bX7_errorPosition {M : Mem} (hM : KS SQr M0 M) : Fr SQr M0 (mX7_errorPosition 135 M) := by
  unfold mX7_errorPosition
  exact (Fr.bw (Or.inl ⟨rfl, by decide⟩) hM (fun M1 hM1 => (Fr.ok hM1)))
theorem bX7_tellNow {x1 : Int32} {M : Mem} (hM : KS SQr M0 M) : Fr SQr M0 (mX7_tellNow 135 x1 M) := by
  unfold mX7_tellNow
  exact (Fr.bw (Or.inl ⟨rfl, by decide⟩) hM (fun M1 hM1 => (Fr.k (Fr.ok hM1))))
theorem bX7_bends {M : Mem} (hM : KS SQr M0 M) : Fr SQr M0 (mX7_bends 135 M) := by
  unfold mX7_bends
  exact (Fr.m (bX7_tellNow hM) (fun M3 r2 hM3 => (Fr.ok hM3)))
theorem bX7_legs {M : Mem} (hM : KS SQr M0 M) : Fr SQr M0 (mX7_legs 135 M) := by
  unfold mX7_legs
  exact (Fr.m (bX7_tellNow hM) (fun M3 r2 hM3 => (Fr.ok hM3)))
theorem bX7_leg {x1 : Int32} {M : Mem} (hM : KS SQr M0 M) : Fr SQr M0 (mX7_leg 135 x1 M) := by
  unfold mX7_leg
  exact (Fr.c (fun r2 => (Fr.m (bX7_good hM) (fun M6 r5 hM6 => (Fr.i (Fr.ok hM6) (Fr.k (Fr.ok hM6)))))))
theorem bX7_isUp {x1 : Int32} {M : Mem} (hM : KS SQr M0 M) : Fr SQr M0 (mX7_isUp 135 x1 M) := by
  unfold mX7_isUp
  exact (Fr.c (fun r2 => (Fr.m (bX7_good hM) (fun M6 r5 hM6 => (Fr.i (Fr.ok hM6) (Fr.k (Fr.i (Fr.ok hM6) (Fr.ok hM6))))))))
theorem bX7_deduction {M : Mem} (hM : KS SQr M0 M) : Fr SQr M0 (mX7_deduction 135 M) := by
  unfold mX7_deduction
  exact (Fr.bw (Or.inl ⟨rfl, by decide⟩) hM (fun M1 hM1 => (Fr.c (fun r4 => (Fr.ok hM1)))))
theorem bX7_flatLength {M : Mem} (hM : KS SQr M0 M) : Fr SQr M0 (mX7_flatLength 135 M) := by
  unfold mX7_flatLength
  exact (Fr.bw (Or.inl ⟨rfl, by decide⟩) hM (fun M1 hM1 => (Fr.k (Fr.i (Fr.ok hM1) (Fr.k (Fr.c (fun r7 => (Fr.k (Fr.c (fun r11 => (Fr.k (Fr.k (Fr.ok hM1)))))))))))))
theorem bX7_linePlace {x1 : Int32} {M : Mem} (hM : KS SQr M0 M) : Fr SQr M0 (mX7_linePlace 135 x1 M) := by
  unfold mX7_linePlace
  exact (Fr.c (fun r2 => (Fr.m (bX7_good hM) (fun M6 r5 hM6 => (Fr.i (Fr.ok hM6) (Fr.c (fun r9 => (Fr.k (Fr.c (fun r13 => (Fr.k (Fr.k (Fr.ok hM6)))))))))))))
theorem bX7_ratio {M : Mem} (hM : KS SQr M0 M) : Fr SQr M0 (mX7_ratio 135 M) := by
  unfold mX7_ratio
  exact (Fr.bw (Or.inl ⟨rfl, by decide⟩) hM (fun M1 hM1 => (Fr.c (fun r4 => (Fr.ok hM1)))))
theorem bX7_springBack {M : Mem} (hM : KS SQr M0 M) : Fr SQr M0 (mX7_springBack 135 M) := by
  unfold mX7_springBack
  exact (Fr.bw (Or.inl ⟨rfl, by decide⟩) hM (fun M1 hM1 => (Fr.c (fun r4 => (Fr.c (fun r7 => (Fr.ok hM1)))))))
theorem bX7_springBackFor_b20 {x1 : UInt64} {y1 : Int32} {M : Mem} (hM : KS SQr M0 M) : Fr SQr M0 (mX7_springBackFor_b20 135 x1 y1 M) := by
  unfold mX7_springBackFor_b20
  exact (Fr.m (bX7_good hM) (fun M4 r3 hM4 => (Fr.i (Fr.ok hM4) (Fr.c (fun r7 => (Fr.ok hM4))))))
theorem bX7_springBackFor_b19 {x1 : UInt64} {M : Mem} (hM : KS SQr M0 M) : Fr SQr M0 (mX7_springBackFor_b19 135 x1 M) := by
  unfold mX7_springBackFor_b19
  exact (bX7_springBackFor_b20 hM)
theorem bX7_springBackFor {x1 : UInt64} {M : Mem} (hM : KS SQr M0 M) : Fr SQr M0 (mX7_springBackFor 135 x1 M) := by
  unfold mX7_springBackFor
  exact (Fr.i (bX7_springBackFor_b19 hM) (Fr.i (bX7_springBackFor_b19 hM) (bX7_springBackFor_b20 hM)))
theorem bX7_swingAngle {M : Mem} (hM : KS SQr M0 M) : Fr SQr M0 (mX7_swingAngle 135 M) := by
  unfold mX7_swingAngle
  exact (Fr.bw (Or.inl ⟨rfl, by decide⟩) hM (fun M1 hM1 => (Fr.c (fun r4 => (Fr.c (fun r7 => (Fr.k (Fr.ok hM1))))))))
theorem bX7_tool {x1 : Int32} {x2 : Int32} {M : Mem} (hM : KS SQr M0 M) : Fr SQr M0 (mX7_tool 135 x1 x2 M) := by
  unfold mX7_tool
  exact (Fr.c (fun r2 => (Fr.m (bX7_good hM) (fun M6 r5 hM6 => (Fr.i (Fr.ok hM6) (Fr.k (Fr.ok hM6)))))))
theorem bX7_isSymmetric {M : Mem} (hM : KS SQr M0 M) : Fr SQr M0 (mX7_isSymmetric 135 M) := by
  unfold mX7_isSymmetric
  exact (Fr.bw (Or.inl ⟨rfl, by decide⟩) hM (fun M1 hM1 => (Fr.k (Fr.c (fun r5 => (Fr.i (Fr.ok hM1) (Fr.k (Fr.c (fun r10 => (Fr.i (Fr.ok hM1) (Fr.ok hM1)))))))))))
theorem bX7_longestLeg_b48 {ih9 : Int32 → Int32 → Mem → Option (Mem × Int32)} {x2 : Int32} {y0 : Int32} {M : Mem} (hih9 : ∀ (v0 : Int32) (v1 : Int32) (v2 : Mem), KS SQr M0 v2 → Fr SQr M0 (ih9 v0 v1 v2)) (hM : KS SQr M0 M) : Fr SQr M0 (mX7_longestLeg_b48 135 ih9 x2 y0 M) := by
  unfold mX7_longestLeg_b48
  exact (Fr.b (fun x2_49 => (hih9 _ _ _ hM)))
theorem bX7_longestLeg_b43 {ih9 : Int32 → Int32 → Mem → Option (Mem × Int32)} {x2 : Int32} {M : Mem} (hih9 : ∀ (v0 : Int32) (v1 : Int32) (v2 : Mem), KS SQr M0 v2 → Fr SQr M0 (ih9 v0 v1 v2)) (hM : KS SQr M0 M) : Fr SQr M0 (mX7_longestLeg_b43 135 ih9 x2 M) := by
  unfold mX7_longestLeg_b43
  exact (bX7_longestLeg_b48 hih9 hM)
theorem bX7_longestLeg_b9 {ih9 : Int32 → Int32 → Mem → Option (Mem × Int32)} {x1 : Int32} {x2 : Int32} {M : Mem} (hih9 : ∀ (v0 : Int32) (v1 : Int32) (v2 : Mem), KS SQr M0 v2 → Fr SQr M0 (ih9 v0 v1 v2)) (hM : KS SQr M0 M) : Fr SQr M0 (mX7_longestLeg_b9 135 ih9 x1 x2 M) := by
  unfold mX7_longestLeg_b9
  exact (Fr.k (Fr.i (Fr.ok hM) (Fr.i (bX7_longestLeg_b43 hih9 hM) (Fr.k (Fr.k (Fr.i (bX7_longestLeg_b48 hih9 hM) (bX7_longestLeg_b43 hih9 hM)))))))
theorem bX7_longestLeg_l9_n  : ∀ (n : Nat) (v0 : Int32) (v1 : Int32) (v2 : Mem), KS SQr M0 v2 → Fr SQr M0 (mX7_longestLeg_l9 135 n v0 v1 v2) := by
  intro n
  induction n with
  | zero => intro v0 v1 v2 h; exact Fr.n
  | succ n IH => intro v0 v1 v2 h; exact bX7_longestLeg_b9  IH h
theorem bX7_longestLeg_l9  {v0 : Int32} {v1 : Int32} {v2 : Mem} {n : Nat} (h : KS SQr M0 v2) : Fr SQr M0 (mX7_longestLeg_l9 135 n v0 v1 v2) := bX7_longestLeg_l9_n   n v0 v1 v2 h
theorem bX7_longestLeg {M : Mem} (hM : KS SQr M0 M) : Fr SQr M0 (mX7_longestLeg 135 M) := by
  unfold mX7_longestLeg
  exact (Fr.bw (Or.inl ⟨rfl, by decide⟩) hM (fun M1 hM1 => (bX7_longestLeg_l9 hM1)))
theorem bX7_layLeg {x1 : Int32} {x2 : Int32} {M : Mem} (hM : KS SQr M0 M) : Fr SQr M0 (mX7_layLeg 135 x1 x2 M) := by
  unfold mX7_layLeg
  exact (Fr.k (Fr.bw (Or.inr (by decide)) hM (fun M3 hM3 => (Fr.k (Fr.bw (Or.inr (by decide)) hM3 (fun M6 hM6 => (Fr.c (fun r8 => (Fr.k (Fr.bw (Or.inl ⟨rfl, by decide⟩) hM6 (fun M11 hM11 => (Fr.c (fun r14 => (Fr.k (Fr.bw (Or.inl ⟨rfl, by decide⟩) hM11 (fun M17 hM17 => (Fr.k (Fr.bw (Or.inr (by decide)) hM17 (fun M21 hM21 => (Fr.k (Fr.bw (Or.inr (by decide)) hM21 (fun M24 hM24 => (Fr.ok hM24)))))))))))))))))))))))
theorem bX7_laySide_b136 {ih16 : Int32 → Int32 → Int32 → Int32 → Int32 → Int32 → Mem → Option (Mem × Unit)} {x2 : Int32} {x4 : Int32} {x5 : Int32} {x6 : Int32} {x7 : Int32} {x8 : Int32} {M : Mem} (hih16 : ∀ (v0 : Int32) (v1 : Int32) (v2 : Int32) (v3 : Int32) (v4 : Int32) (v5 : Int32) (v6 : Mem), KS SQr M0 v6 → Fr SQr M0 (ih16 v0 v1 v2 v3 v4 v5 v6)) (hM : KS SQr M0 M) : Fr SQr M0 (mX7_laySide_b136 135 ih16 x2 x4 x5 x6 x7 x8 M) := by
  unfold mX7_laySide_b136
  exact (Fr.b (fun x8_140 => (hih16 _ _ _ _ _ _ _ hM)))
theorem bX7_laySide_b131 {ih16 : Int32 → Int32 → Int32 → Int32 → Int32 → Int32 → Mem → Option (Mem × Unit)} {x2 : Int32} {x4 : Int32} {x5 : Int32} {x6 : Int32} {x8 : Int32} {y0 : Int32} {y1 : Int32} {M : Mem} (hih16 : ∀ (v0 : Int32) (v1 : Int32) (v2 : Int32) (v3 : Int32) (v4 : Int32) (v5 : Int32) (v6 : Mem), KS SQr M0 v6 → Fr SQr M0 (ih16 v0 v1 v2 v3 v4 v5 v6)) (hM : KS SQr M0 M) : Fr SQr M0 (mX7_laySide_b131 135 ih16 x2 x4 x5 x6 x8 y0 y1 M) := by
  unfold mX7_laySide_b131
  exact (Fr.b (fun x7_134 => (bX7_laySide_b136 hih16 hM)))
theorem bX7_laySide_b113 {ih16 : Int32 → Int32 → Int32 → Int32 → Int32 → Int32 → Mem → Option (Mem × Unit)} {x2 : Int32} {x4 : Int32} {x5 : Int32} {x6 : Int32} {x7 : Int32} {x8 : Int32} {y0 : Int32} {M : Mem} (hih16 : ∀ (v0 : Int32) (v1 : Int32) (v2 : Int32) (v3 : Int32) (v4 : Int32) (v5 : Int32) (v6 : Mem), KS SQr M0 v6 → Fr SQr M0 (ih16 v0 v1 v2 v3 v4 v5 v6)) (hM : KS SQr M0 M) : Fr SQr M0 (mX7_laySide_b113 135 ih16 x2 x4 x5 x6 x7 x8 y0 M) := by
  unfold mX7_laySide_b113
  exact (Fr.i (bX7_laySide_b131 hih16 hM) (bX7_laySide_b131 hih16 hM))
theorem bX7_laySide_b103 {ih16 : Int32 → Int32 → Int32 → Int32 → Int32 → Int32 → Mem → Option (Mem × Unit)} {x2 : Int32} {x4 : Int32} {x5 : Int32} {x6 : Int32} {x7 : Int32} {x8 : Int32} {y0 : Int32} {M : Mem} (hih16 : ∀ (v0 : Int32) (v1 : Int32) (v2 : Int32) (v3 : Int32) (v4 : Int32) (v5 : Int32) (v6 : Mem), KS SQr M0 v6 → Fr SQr M0 (ih16 v0 v1 v2 v3 v4 v5 v6)) (hM : KS SQr M0 M) : Fr SQr M0 (mX7_laySide_b103 135 ih16 x2 x4 x5 x6 x7 x8 y0 M) := by
  unfold mX7_laySide_b103
  exact (Fr.i (bX7_laySide_b113 hih16 hM) (bX7_laySide_b113 hih16 hM))
theorem bX7_laySide_b53 {ih16 : Int32 → Int32 → Int32 → Int32 → Int32 → Int32 → Mem → Option (Mem × Unit)} {x2 : Int32} {x4 : Int32} {x5 : Int32} {x6 : Int32} {x7 : Int32} {x8 : Int32} {y0 : Int32} {M : Mem} (hih16 : ∀ (v0 : Int32) (v1 : Int32) (v2 : Int32) (v3 : Int32) (v4 : Int32) (v5 : Int32) (v6 : Mem), KS SQr M0 v6 → Fr SQr M0 (ih16 v0 v1 v2 v3 v4 v5 v6)) (hM : KS SQr M0 M) : Fr SQr M0 (mX7_laySide_b53 135 ih16 x2 x4 x5 x6 x7 x8 y0 M) := by
  unfold mX7_laySide_b53
  exact (Fr.k (Fr.c (fun r14 => (Fr.i (bX7_laySide_b136 hih16 hM) (Fr.c (fun r19 => (Fr.i (bX7_laySide_b136 hih16 hM) (Fr.k (Fr.i (bX7_laySide_b103 hih16 hM) (bX7_laySide_b103 hih16 hM))))))))))
theorem bX7_laySide_b16 {ih16 : Int32 → Int32 → Int32 → Int32 → Int32 → Int32 → Mem → Option (Mem × Unit)} {x2 : Int32} {x4 : Int32} {x5 : Int32} {x6 : Int32} {x7 : Int32} {x8 : Int32} {M : Mem} (hih16 : ∀ (v0 : Int32) (v1 : Int32) (v2 : Int32) (v3 : Int32) (v4 : Int32) (v5 : Int32) (v6 : Mem), KS SQr M0 v6 → Fr SQr M0 (ih16 v0 v1 v2 v3 v4 v5 v6)) (hM : KS SQr M0 M) : Fr SQr M0 (mX7_laySide_b16 135 ih16 x2 x4 x5 x6 x7 x8 M) := by
  unfold mX7_laySide_b16
  exact (Fr.i (Fr.ok hM) (Fr.k (Fr.i (Fr.ok hM) (Fr.m (bX7_layLeg hM) (fun M10 _ hM10 => (Fr.i (bX7_laySide_b53 hih16 hM10) (bX7_laySide_b53 hih16 hM10)))))))
theorem bX7_laySide_l16_n  : ∀ (n : Nat) (v0 : Int32) (v1 : Int32) (v2 : Int32) (v3 : Int32) (v4 : Int32) (v5 : Int32) (v6 : Mem), KS SQr M0 v6 → Fr SQr M0 (mX7_laySide_l16 135 n v0 v1 v2 v3 v4 v5 v6) := by
  intro n
  induction n with
  | zero => intro v0 v1 v2 v3 v4 v5 v6 h; exact Fr.n
  | succ n IH => intro v0 v1 v2 v3 v4 v5 v6 h; exact bX7_laySide_b16  IH h
theorem bX7_laySide_l16  {v0 : Int32} {v1 : Int32} {v2 : Int32} {v3 : Int32} {v4 : Int32} {v5 : Int32} {v6 : Mem} {n : Nat} (h : KS SQr M0 v6) : Fr SQr M0 (mX7_laySide_l16 135 n v0 v1 v2 v3 v4 v5 v6) := bX7_laySide_l16_n   n v0 v1 v2 v3 v4 v5 v6 h
theorem bX7_laySide {x1 : Int32} {x2 : Int32} {x3 : Int32} {x4 : Int32} {x5 : Int32} {x6 : Int32} {M : Mem} (hM : KS SQr M0 M) : Fr SQr M0 (mX7_laySide 135 x1 x2 x3 x4 x5 x6 M) := by
  unfold mX7_laySide
  exact (Fr.bw (Or.inl ⟨rfl, by decide⟩) hM (fun M1 hM1 => (Fr.bw (Or.inl ⟨rfl, by decide⟩) hM1 (fun M3 hM3 => (bX7_laySide_l16 hM3)))))
theorem bX7_laySheet_b69 {x3 : Int32} {x4 : Int32} {y1 : Int32} {y2 : Int32} {y3 : Int32} {y4 : Int32} {M : Mem} (hM : KS SQr M0 M) : Fr SQr M0 (mX7_laySheet_b69 135 x3 x4 y1 y2 y3 y4 M) := by
  unfold mX7_laySheet_b69
  exact (Fr.m (bX7_laySide hM) (fun M12 _ hM12 => (Fr.ok hM12)))
theorem bX7_laySheet_b60 {x2 : Int32} {x3 : Int32} {x4 : Int32} {y1 : Int32} {y2 : Int32} {y3 : Int32} {M : Mem} (hM : KS SQr M0 M) : Fr SQr M0 (mX7_laySheet_b60 135 x2 x3 x4 y1 y2 y3 M) := by
  unfold mX7_laySheet_b60
  exact (Fr.i (bX7_laySheet_b69 hM) (bX7_laySheet_b69 hM))
theorem bX7_laySheet_b40 {x1 : Int32} {x2 : Int32} {x3 : Int32} {x4 : Int32} {y1 : Int32} {y2 : Int32} {y3 : Int32} {y4 : Int32} {M : Mem} (hM : KS SQr M0 M) : Fr SQr M0 (mX7_laySheet_b40 135 x1 x2 x3 x4 y1 y2 y3 y4 M) := by
  unfold mX7_laySheet_b40
  exact (Fr.m (bX7_laySide hM) (fun M7 _ hM7 => (Fr.i (bX7_laySheet_b60 hM7) (bX7_laySheet_b60 hM7))))
theorem bX7_laySheet_b31 {x1 : Int32} {x2 : Int32} {x3 : Int32} {x4 : Int32} {y1 : Int32} {y2 : Int32} {y3 : Int32} {M : Mem} (hM : KS SQr M0 M) : Fr SQr M0 (mX7_laySheet_b31 135 x1 x2 x3 x4 y1 y2 y3 M) := by
  unfold mX7_laySheet_b31
  exact (Fr.i (bX7_laySheet_b40 hM) (bX7_laySheet_b40 hM))
theorem bX7_laySheet_b17 {x1 : Int32} {x2 : Int32} {x3 : Int32} {y0 : Int32} {M : Mem} (hM : KS SQr M0 M) : Fr SQr M0 (mX7_laySheet_b17 135 x1 x2 x3 y0 M) := by
  unfold mX7_laySheet_b17
  exact (Fr.i (bX7_laySheet_b31 hM) (bX7_laySheet_b31 hM))
theorem bX7_laySheet {x1 : Int32} {x2 : Int32} {x3 : Int32} {M : Mem} (hM : KS SQr M0 M) : Fr SQr M0 (mX7_laySheet 135 x1 x2 x3 M) := by
  unfold mX7_laySheet
  exact (Fr.k (Fr.i (bX7_laySheet_b17 hM) (bX7_laySheet_b17 hM)))
theorem bX7_reasonOf {x1 : Int32} {x2 : Int32} {x3 : Int32} {M : Mem} (hM : KS SQr M0 M) : Fr SQr M0 (mX7_reasonOf 135 x1 x2 x3 M) := by
  unfold mX7_reasonOf
  exact (Fr.c (fun r2 => (Fr.i (Fr.c (fun r6 => (Fr.i (Fr.m (bX7_laySheet hM) (fun M11 _ hM11 => (Fr.c (fun r13 => (Fr.i (Fr.ok hM11) (Fr.c (fun r17 => (Fr.i (Fr.c (fun r21 => (Fr.i (Fr.c (fun r25 => (Fr.i (Fr.ok hM11) (Fr.ok hM11)))) (Fr.ok hM11)))) (Fr.ok hM11))))))))) (Fr.ok hM)))) (Fr.ok hM))))
theorem bX7_layFinished_b66 {ih14 : Int32 → Int32 → Mem → Option (Mem × Unit)} {x2 : Int32} {y0 : Int32} {M : Mem} (hih14 : ∀ (v0 : Int32) (v1 : Int32) (v2 : Mem), KS SQr M0 v2 → Fr SQr M0 (ih14 v0 v1 v2)) (hM : KS SQr M0 M) : Fr SQr M0 (mX7_layFinished_b66 135 ih14 x2 y0 M) := by
  unfold mX7_layFinished_b66
  exact (Fr.b (fun x2_67 => (hih14 _ _ _ hM)))
theorem bX7_layFinished_b63 {ih14 : Int32 → Int32 → Mem → Option (Mem × Unit)} {x2 : Int32} {y0 : Int32} {y1 : Int32} {M : Mem} (hih14 : ∀ (v0 : Int32) (v1 : Int32) (v2 : Mem), KS SQr M0 v2 → Fr SQr M0 (ih14 v0 v1 v2)) (hM : KS SQr M0 M) : Fr SQr M0 (mX7_layFinished_b63 135 ih14 x2 y0 y1 M) := by
  unfold mX7_layFinished_b63
  exact (bX7_layFinished_b66 hih14 hM)
theorem bX7_layFinished_b14 {ih14 : Int32 → Int32 → Mem → Option (Mem × Unit)} {x1 : Int32} {x2 : Int32} {M : Mem} (hih14 : ∀ (v0 : Int32) (v1 : Int32) (v2 : Mem), KS SQr M0 v2 → Fr SQr M0 (ih14 v0 v1 v2)) (hM : KS SQr M0 M) : Fr SQr M0 (mX7_layFinished_b14 135 ih14 x1 x2 M) := by
  unfold mX7_layFinished_b14
  exact (Fr.k (Fr.i (Fr.ok hM) (Fr.m (bX7_layLeg hM) (fun M9 _ hM9 => (Fr.k (Fr.i (bX7_layFinished_b66 hih14 hM9) (Fr.k (Fr.i (bX7_layFinished_b63 hih14 hM9) (bX7_layFinished_b63 hih14 hM9)))))))))
theorem bX7_layFinished_l14_n  : ∀ (n : Nat) (v0 : Int32) (v1 : Int32) (v2 : Mem), KS SQr M0 v2 → Fr SQr M0 (mX7_layFinished_l14 135 n v0 v1 v2) := by
  intro n
  induction n with
  | zero => intro v0 v1 v2 h; exact Fr.n
  | succ n IH => intro v0 v1 v2 h; exact bX7_layFinished_b14  IH h
theorem bX7_layFinished_l14  {v0 : Int32} {v1 : Int32} {v2 : Mem} {n : Nat} (h : KS SQr M0 v2) : Fr SQr M0 (mX7_layFinished_l14 135 n v0 v1 v2) := bX7_layFinished_l14_n   n v0 v1 v2 h
theorem bX7_layFinished {M : Mem} (hM : KS SQr M0 M) : Fr SQr M0 (mX7_layFinished 135 M) := by
  unfold mX7_layFinished
  exact (Fr.bw (Or.inl ⟨rfl, by decide⟩) hM (fun M1 hM1 => (Fr.bw (Or.inl ⟨rfl, by decide⟩) hM1 (fun M3 hM3 => (bX7_layFinished_l14 hM3)))))
theorem bX7_finishedWidth_b15 {ih15 : Int32 → Int32 → Int32 → Mem → Option (Mem × Int32)} {x1 : Int32} {x2 : Int32} {x3 : Int32} {M : Mem} (hih15 : ∀ (v0 : Int32) (v1 : Int32) (v2 : Int32) (v3 : Mem), KS SQr M0 v3 → Fr SQr M0 (ih15 v0 v1 v2 v3)) (hM : KS SQr M0 M) : Fr SQr M0 (mX7_finishedWidth_b15 135 ih15 x1 x2 x3 M) := by
  unfold mX7_finishedWidth_b15
  exact (Fr.k (Fr.i (Fr.ok hM) (Fr.k (Fr.b (fun x1_35 => (Fr.k (Fr.b (fun x2_46 => (Fr.b (fun x3_47 => (hih15 _ _ _ _ hM)))))))))))
theorem bX7_finishedWidth_l15_n  : ∀ (n : Nat) (v0 : Int32) (v1 : Int32) (v2 : Int32) (v3 : Mem), KS SQr M0 v3 → Fr SQr M0 (mX7_finishedWidth_l15 135 n v0 v1 v2 v3) := by
  intro n
  induction n with
  | zero => intro v0 v1 v2 v3 h; exact Fr.n
  | succ n IH => intro v0 v1 v2 v3 h; exact bX7_finishedWidth_b15  IH h
theorem bX7_finishedWidth_l15  {v0 : Int32} {v1 : Int32} {v2 : Int32} {v3 : Mem} {n : Nat} (h : KS SQr M0 v3) : Fr SQr M0 (mX7_finishedWidth_l15 135 n v0 v1 v2 v3) := bX7_finishedWidth_l15_n   n v0 v1 v2 v3 h
theorem bX7_finishedWidth {M : Mem} (hM : KS SQr M0 M) : Fr SQr M0 (mX7_finishedWidth 135 M) := by
  unfold mX7_finishedWidth
  exact (Fr.bw (Or.inl ⟨rfl, by decide⟩) hM (fun M1 hM1 => (Fr.m (bX7_layFinished hM1) (fun M5 _ hM5 => (bX7_finishedWidth_l15 hM5)))))
theorem bX7_finishedHeight_b15 {ih15 : Int32 → Int32 → Int32 → Mem → Option (Mem × Int32)} {x1 : Int32} {x2 : Int32} {x3 : Int32} {M : Mem} (hih15 : ∀ (v0 : Int32) (v1 : Int32) (v2 : Int32) (v3 : Mem), KS SQr M0 v3 → Fr SQr M0 (ih15 v0 v1 v2 v3)) (hM : KS SQr M0 M) : Fr SQr M0 (mX7_finishedHeight_b15 135 ih15 x1 x2 x3 M) := by
  unfold mX7_finishedHeight_b15
  exact (Fr.k (Fr.i (Fr.ok hM) (Fr.k (Fr.b (fun x1_35 => (Fr.k (Fr.b (fun x2_46 => (Fr.b (fun x3_47 => (hih15 _ _ _ _ hM)))))))))))
theorem bX7_finishedHeight_l15_n  : ∀ (n : Nat) (v0 : Int32) (v1 : Int32) (v2 : Int32) (v3 : Mem), KS SQr M0 v3 → Fr SQr M0 (mX7_finishedHeight_l15 135 n v0 v1 v2 v3) := by
  intro n
  induction n with
  | zero => intro v0 v1 v2 v3 h; exact Fr.n
  | succ n IH => intro v0 v1 v2 v3 h; exact bX7_finishedHeight_b15  IH h
theorem bX7_finishedHeight_l15  {v0 : Int32} {v1 : Int32} {v2 : Int32} {v3 : Mem} {n : Nat} (h : KS SQr M0 v3) : Fr SQr M0 (mX7_finishedHeight_l15 135 n v0 v1 v2 v3) := bX7_finishedHeight_l15_n   n v0 v1 v2 v3 h
theorem bX7_finishedHeight {M : Mem} (hM : KS SQr M0 M) : Fr SQr M0 (mX7_finishedHeight 135 M) := by
  unfold mX7_finishedHeight
  exact (Fr.bw (Or.inl ⟨rfl, by decide⟩) hM (fun M1 hM1 => (Fr.m (bX7_layFinished hM1) (fun M5 _ hM5 => (bX7_finishedHeight_l15 hM5)))))
theorem bX7_isFinishedCrossed {M : Mem} (hM : KS SQr M0 M) : Fr SQr M0 (mX7_isFinishedCrossed 135 M) := by
  unfold mX7_isFinishedCrossed
  exact (Fr.bw (Or.inl ⟨rfl, by decide⟩) hM (fun M1 hM1 => (Fr.m (bX7_layFinished hM1) (fun M5 _ hM5 => (Fr.c (fun r7 => (Fr.k (Fr.ok hM5))))))))
theorem bX7_finishedCorner {x1 : Int32} {x2 : Int32} {M : Mem} (hM : KS SQr M0 M) : Fr SQr M0 (mX7_finishedCorner 135 x1 x2 M) := by
  unfold mX7_finishedCorner
  exact (Fr.c (fun r2 => (Fr.c (fun r5 => (Fr.m (bX7_good_ hM) (fun M9 r8 hM9 => (Fr.i (Fr.ok hM9) (Fr.m (bX7_layFinished hM9) (fun M13 _ hM13 => (Fr.i (Fr.k (Fr.ok hM13)) (Fr.k (Fr.ok hM13))))))))))))
theorem bX7_made {M : Mem} (hM : KS SQr M0 M) : Fr SQr M0 (mX7_made 135 M) := by
  unfold mX7_made
  exact (Fr.m (bX7_tellNow hM) (fun M3 r2 hM3 => (Fr.ok hM3)))
theorem bX7_steps {M : Mem} (hM : KS SQr M0 M) : Fr SQr M0 (mX7_steps 135 M) := by
  unfold mX7_steps
  exact (Fr.m (bX7_tellNow hM) (fun M3 r2 hM3 => (Fr.ok hM3)))
theorem bX7_step {x1 : Int32} {x2 : Int32} {M : Mem} (hM : KS SQr M0 M) : Fr SQr M0 (mX7_step 135 x1 x2 M) := by
  unfold mX7_step
  exact (Fr.k (Fr.c (fun r3 => (Fr.c (fun r6 => (Fr.m (bX7_good_ hM) (fun M10 r9 hM10 => (Fr.i (Fr.ok hM10) (Fr.c (fun r13 => (Fr.ok hM10)))))))))))
theorem bX7_costSoFar {M : Mem} (hM : KS SQr M0 M) : Fr SQr M0 (mX7_costSoFar 135 M) := by
  unfold mX7_costSoFar
  exact (Fr.bw (Or.inl ⟨rfl, by decide⟩) hM (fun M1 hM1 => (Fr.c (fun r4 => (Fr.ok hM1)))))
theorem bX7_corner_b45 {x1 : Int32} {x2 : Int32} {x3 : Int32} {x4 : Int32} {y1 : Int32} {y2 : Int32} {M : Mem} (hM : KS SQr M0 M) : Fr SQr M0 (mX7_corner_b45 135 x1 x2 x3 x4 y1 y2 M) := by
  unfold mX7_corner_b45
  exact (Fr.m (bX7_good_ hM) (fun M11 r10 hM11 => (Fr.i (Fr.ok hM11) (Fr.k (Fr.m (bX7_laySheet hM11) (fun M16 _ hM16 => (Fr.i (Fr.k (Fr.ok hM16)) (Fr.k (Fr.ok hM16)))))))))
theorem bX7_corner_b44 {x1 : Int32} {x2 : Int32} {x3 : Int32} {x4 : Int32} {y1 : Int32} {M : Mem} (hM : KS SQr M0 M) : Fr SQr M0 (mX7_corner_b44 135 x1 x2 x3 x4 y1 M) := by
  unfold mX7_corner_b44
  exact (bX7_corner_b45 hM)
theorem bX7_corner_b22 {x1 : Int32} {x2 : Int32} {x3 : Int32} {x4 : Int32} {y1 : Int32} {M : Mem} (hM : KS SQr M0 M) : Fr SQr M0 (mX7_corner_b22 135 x1 x2 x3 x4 y1 M) := by
  unfold mX7_corner_b22
  exact (Fr.c (fun r6 => (Fr.i (bX7_corner_b44 hM) (Fr.c (fun r21 => (Fr.i (bX7_corner_b44 hM) (bX7_corner_b45 hM)))))))
theorem bX7_corner_b21 {x1 : Int32} {x2 : Int32} {x3 : Int32} {x4 : Int32} {M : Mem} (hM : KS SQr M0 M) : Fr SQr M0 (mX7_corner_b21 135 x1 x2 x3 x4 M) := by
  unfold mX7_corner_b21
  exact (bX7_corner_b22 hM)
theorem bX7_corner {x1 : Int32} {x2 : Int32} {x3 : Int32} {x4 : Int32} {M : Mem} (hM : KS SQr M0 M) : Fr SQr M0 (mX7_corner 135 x1 x2 x3 x4 M) := by
  unfold mX7_corner
  exact (Fr.c (fun r2 => (Fr.i (bX7_corner_b21 hM) (Fr.c (fun r25 => (Fr.i (bX7_corner_b21 hM) (bX7_corner_b22 hM)))))))
theorem bX7_top_b73 {ih36 : Int32 → Int32 → Int32 → Int32 → Mem → Option (Mem × Int32)} {x1 : Int32} {x2 : Int32} {x4 : Int32} {y0 : Int32} {M : Mem} (hih36 : ∀ (v0 : Int32) (v1 : Int32) (v2 : Int32) (v3 : Int32) (v4 : Mem), KS SQr M0 v4 → Fr SQr M0 (ih36 v0 v1 v2 v3 v4)) (hM : KS SQr M0 M) : Fr SQr M0 (mX7_top_b73 135 ih36 x1 x2 x4 y0 M) := by
  unfold mX7_top_b73
  exact (Fr.b (fun x4_74 => (hih36 _ _ _ _ _ hM)))
theorem bX7_top_b36 {ih36 : Int32 → Int32 → Int32 → Int32 → Mem → Option (Mem × Int32)} {x1 : Int32} {x2 : Int32} {x3 : Int32} {x4 : Int32} {M : Mem} (hih36 : ∀ (v0 : Int32) (v1 : Int32) (v2 : Int32) (v3 : Int32) (v4 : Mem), KS SQr M0 v4 → Fr SQr M0 (ih36 v0 v1 v2 v3 v4)) (hM : KS SQr M0 M) : Fr SQr M0 (mX7_top_b36 135 ih36 x1 x2 x3 x4 M) := by
  unfold mX7_top_b36
  exact (Fr.k (Fr.i (Fr.ok hM) (Fr.c (fun r18 => (Fr.i (Fr.k (bX7_top_b73 hih36 hM)) (bX7_top_b73 hih36 hM))))))
theorem bX7_top_l36_n  : ∀ (n : Nat) (v0 : Int32) (v1 : Int32) (v2 : Int32) (v3 : Int32) (v4 : Mem), KS SQr M0 v4 → Fr SQr M0 (mX7_top_l36 135 n v0 v1 v2 v3 v4) := by
  intro n
  induction n with
  | zero => intro v0 v1 v2 v3 v4 h; exact Fr.n
  | succ n IH => intro v0 v1 v2 v3 v4 h; exact bX7_top_b36  IH h
theorem bX7_top_l36  {v0 : Int32} {v1 : Int32} {v2 : Int32} {v3 : Int32} {v4 : Mem} {n : Nat} (h : KS SQr M0 v4) : Fr SQr M0 (mX7_top_l36 135 n v0 v1 v2 v3 v4) := bX7_top_l36_n   n v0 v1 v2 v3 v4 h
theorem bX7_top {x1 : Int32} {x2 : Int32} {M : Mem} (hM : KS SQr M0 M) : Fr SQr M0 (mX7_top 135 x1 x2 M) := by
  unfold mX7_top
  exact (Fr.c (fun r2 => (Fr.c (fun r5 => (Fr.m (bX7_good_ hM) (fun M9 r8 hM9 => (Fr.i (Fr.ok hM9) (Fr.k (Fr.m (bX7_laySheet hM9) (fun M14 _ hM14 => (bX7_top_l36 hM14)))))))))))
theorem bX7_hitting {x1 : Int32} {x2 : Int32} {M : Mem} (hM : KS SQr M0 M) : Fr SQr M0 (mX7_hitting 135 x1 x2 M) := by
  unfold mX7_hitting
  exact (Fr.c (fun r2 => (Fr.c (fun r5 => (Fr.m (bX7_good_ hM) (fun M9 r8 hM9 => (Fr.i (Fr.ok hM9) (Fr.k (Fr.m (bX7_laySheet hM9) (fun M14 _ hM14 => (Fr.c (fun r16 => (Fr.ok hM14)))))))))))))
theorem bX7_refused_b61 {ih22 : Int32 → Int32 → Int32 → Mem → Option (Mem × Int32)} {x1 : Int32} {x3 : Int32} {y0 : Int32} {y1 : Int32} {M : Mem} (hih22 : ∀ (v0 : Int32) (v1 : Int32) (v2 : Int32) (v3 : Mem), KS SQr M0 v3 → Fr SQr M0 (ih22 v0 v1 v2 v3)) (hM : KS SQr M0 M) : Fr SQr M0 (mX7_refused_b61 135 ih22 x1 x3 y0 y1 M) := by
  unfold mX7_refused_b61
  exact (Fr.b (fun x2_62 => (Fr.b (fun x3_63 => (hih22 _ _ _ _ hM)))))
theorem bX7_refused_b22 {ih22 : Int32 → Int32 → Int32 → Mem → Option (Mem × Int32)} {x1 : Int32} {x2 : Int32} {x3 : Int32} {M : Mem} (hih22 : ∀ (v0 : Int32) (v1 : Int32) (v2 : Int32) (v3 : Mem), KS SQr M0 v3 → Fr SQr M0 (ih22 v0 v1 v2 v3)) (hM : KS SQr M0 M) : Fr SQr M0 (mX7_refused_b22 135 ih22 x1 x2 x3 M) := by
  unfold mX7_refused_b22
  exact (Fr.k (Fr.i (Fr.ok hM) (Fr.k (Fr.m (bX7_reasonOf hM) (fun M13 r12 hM13 => (Fr.i (bX7_refused_b61 hih22 hM13) (bX7_refused_b61 hih22 hM13)))))))
theorem bX7_refused_l22_n  : ∀ (n : Nat) (v0 : Int32) (v1 : Int32) (v2 : Int32) (v3 : Mem), KS SQr M0 v3 → Fr SQr M0 (mX7_refused_l22 135 n v0 v1 v2 v3) := by
  intro n
  induction n with
  | zero => intro v0 v1 v2 v3 h; exact Fr.n
  | succ n IH => intro v0 v1 v2 v3 h; exact bX7_refused_b22  IH h
theorem bX7_refused_l22  {v0 : Int32} {v1 : Int32} {v2 : Int32} {v3 : Mem} {n : Nat} (h : KS SQr M0 v3) : Fr SQr M0 (mX7_refused_l22 135 n v0 v1 v2 v3) := bX7_refused_l22_n   n v0 v1 v2 v3 h
theorem bX7_refused {x1 : Int32} {M : Mem} (hM : KS SQr M0 M) : Fr SQr M0 (mX7_refused 135 x1 M) := by
  unfold mX7_refused
  exact (Fr.c (fun r2 => (Fr.m (bX7_good hM) (fun M6 r5 hM6 => (Fr.i (Fr.ok hM6) (bX7_refused_l22 hM6))))))
theorem bX7_possible_b49 {ih9 : Int32 → Int32 → Mem → Option (Mem × Int32)} {x2 : Int32} {y0 : Int32} {y1 : Int32} {M : Mem} (hih9 : ∀ (v0 : Int32) (v1 : Int32) (v2 : Mem), KS SQr M0 v2 → Fr SQr M0 (ih9 v0 v1 v2)) (hM : KS SQr M0 M) : Fr SQr M0 (mX7_possible_b49 135 ih9 x2 y0 y1 M) := by
  unfold mX7_possible_b49
  exact (Fr.b (fun x1_50 => (Fr.b (fun x2_51 => (hih9 _ _ _ hM)))))
theorem bX7_possible_b9 {ih9 : Int32 → Int32 → Mem → Option (Mem × Int32)} {x1 : Int32} {x2 : Int32} {M : Mem} (hih9 : ∀ (v0 : Int32) (v1 : Int32) (v2 : Mem), KS SQr M0 v2 → Fr SQr M0 (ih9 v0 v1 v2)) (hM : KS SQr M0 M) : Fr SQr M0 (mX7_possible_b9 135 ih9 x1 x2 M) := by
  unfold mX7_possible_b9
  exact (Fr.k (Fr.i (Fr.ok hM) (Fr.k (Fr.m (bX7_reasonOf hM) (fun M8 r7 hM8 => (Fr.i (bX7_possible_b49 hih9 hM8) (bX7_possible_b49 hih9 hM8)))))))
theorem bX7_possible_l9_n  : ∀ (n : Nat) (v0 : Int32) (v1 : Int32) (v2 : Mem), KS SQr M0 v2 → Fr SQr M0 (mX7_possible_l9 135 n v0 v1 v2) := by
  intro n
  induction n with
  | zero => intro v0 v1 v2 h; exact Fr.n
  | succ n IH => intro v0 v1 v2 h; exact bX7_possible_b9  IH h
theorem bX7_possible_l9  {v0 : Int32} {v1 : Int32} {v2 : Mem} {n : Nat} (h : KS SQr M0 v2) : Fr SQr M0 (mX7_possible_l9 135 n v0 v1 v2) := bX7_possible_l9_n   n v0 v1 v2 h
theorem bX7_possible {M : Mem} (hM : KS SQr M0 M) : Fr SQr M0 (mX7_possible 135 M) := by
  unfold mX7_possible
  exact (Fr.bw (Or.inl ⟨rfl, by decide⟩) hM (fun M1 hM1 => (bX7_possible_l9 hM1)))
theorem bX7_stuck_b71 {ih9 : Int32 → Int32 → Mem → Option (Mem × Int32)} {x2 : Int32} {y0 : Int32} {y1 : Int32} {M : Mem} (hih9 : ∀ (v0 : Int32) (v1 : Int32) (v2 : Mem), KS SQr M0 v2 → Fr SQr M0 (ih9 v0 v1 v2)) (hM : KS SQr M0 M) : Fr SQr M0 (mX7_stuck_b71 135 ih9 x2 y0 y1 M) := by
  unfold mX7_stuck_b71
  exact (Fr.b (fun x1_72 => (Fr.b (fun x2_73 => (hih9 _ _ _ hM)))))
theorem bX7_stuck_b70 {ih9 : Int32 → Int32 → Mem → Option (Mem × Int32)} {x2 : Int32} {y0 : Int32} {M : Mem} (hih9 : ∀ (v0 : Int32) (v1 : Int32) (v2 : Mem), KS SQr M0 v2 → Fr SQr M0 (ih9 v0 v1 v2)) (hM : KS SQr M0 M) : Fr SQr M0 (mX7_stuck_b70 135 ih9 x2 y0 M) := by
  unfold mX7_stuck_b70
  exact (bX7_stuck_b71 hih9 hM)
theorem bX7_stuck_b9 {ih9 : Int32 → Int32 → Mem → Option (Mem × Int32)} {x1 : Int32} {x2 : Int32} {M : Mem} (hih9 : ∀ (v0 : Int32) (v1 : Int32) (v2 : Mem), KS SQr M0 v2 → Fr SQr M0 (ih9 v0 v1 v2)) (hM : KS SQr M0 M) : Fr SQr M0 (mX7_stuck_b9 135 ih9 x1 x2 M) := by
  unfold mX7_stuck_b9
  exact (Fr.k (Fr.i (Fr.ok hM) (Fr.k (Fr.c (fun r7 => (Fr.i (Fr.k (Fr.m (bX7_reasonOf hM) (fun M15 r14 hM15 => (Fr.i (bX7_stuck_b70 hih9 hM15) (Fr.k (Fr.m (bX7_reasonOf hM15) (fun M20 r19 hM20 => (Fr.i (bX7_stuck_b70 hih9 hM20) (bX7_stuck_b71 hih9 hM20))))))))) (bX7_stuck_b70 hih9 hM)))))))
theorem bX7_stuck_l9_n  : ∀ (n : Nat) (v0 : Int32) (v1 : Int32) (v2 : Mem), KS SQr M0 v2 → Fr SQr M0 (mX7_stuck_l9 135 n v0 v1 v2) := by
  intro n
  induction n with
  | zero => intro v0 v1 v2 h; exact Fr.n
  | succ n IH => intro v0 v1 v2 h; exact bX7_stuck_b9  IH h
theorem bX7_stuck_l9  {v0 : Int32} {v1 : Int32} {v2 : Mem} {n : Nat} (h : KS SQr M0 v2) : Fr SQr M0 (mX7_stuck_l9 135 n v0 v1 v2) := bX7_stuck_l9_n   n v0 v1 v2 h
theorem bX7_stuck {M : Mem} (hM : KS SQr M0 M) : Fr SQr M0 (mX7_stuck 135 M) := by
  unfold mX7_stuck
  exact (Fr.bw (Or.inl ⟨rfl, by decide⟩) hM (fun M1 hM1 => (bX7_stuck_l9 hM1)))
theorem bX7_put {x1 : Int32} {M : Mem} (hM : KS SQr M0 M) : Fr SQr M0 (mX7_put 135 x1 M) := by
  unfold mX7_put
  exact (Fr.k (Fr.bw (Or.inr (by decide)) hM (fun M3 hM3 => (Fr.bw (Or.inl ⟨rfl, by decide⟩) hM3 (fun M4 hM4 => (Fr.ok hM4))))))
theorem bX7_putNumber_b18 {ih18 : Int32 → Int32 → Mem → Option (Mem × Unit)} {x1 : Int32} {x2 : Int32} {M : Mem} (hih18 : ∀ (v0 : Int32) (v1 : Int32) (v2 : Mem), KS SQr M0 v2 → Fr SQr M0 (ih18 v0 v1 v2)) (hM : KS SQr M0 M) : Fr SQr M0 (mX7_putNumber_b18 135 ih18 x1 x2 M) := by
  unfold mX7_putNumber_b18
  exact (Fr.i (Fr.ok hM) (Fr.k (Fr.m (bX7_put hM) (fun M7 _ hM7 => (Fr.b (fun x2_39 => (hih18 _ _ _ hM7)))))))
theorem bX7_putNumber_l18_n  : ∀ (n : Nat) (v0 : Int32) (v1 : Int32) (v2 : Mem), KS SQr M0 v2 → Fr SQr M0 (mX7_putNumber_l18 135 n v0 v1 v2) := by
  intro n
  induction n with
  | zero => intro v0 v1 v2 h; exact Fr.n
  | succ n IH => intro v0 v1 v2 h; exact bX7_putNumber_b18  IH h
theorem bX7_putNumber_l18  {v0 : Int32} {v1 : Int32} {v2 : Mem} {n : Nat} (h : KS SQr M0 v2) : Fr SQr M0 (mX7_putNumber_l18 135 n v0 v1 v2) := bX7_putNumber_l18_n   n v0 v1 v2 h
theorem bX7_putNumber_b2 {ih2 : Int32 → Int32 → Mem → Option (Mem × Unit)} {x1 : Int32} {x2 : Int32} {M : Mem} (hih2 : ∀ (v0 : Int32) (v1 : Int32) (v2 : Mem), KS SQr M0 v2 → Fr SQr M0 (ih2 v0 v1 v2)) (hM : KS SQr M0 M) : Fr SQr M0 (mX7_putNumber_b2 135 ih2 x1 x2 M) := by
  unfold mX7_putNumber_b2
  exact (Fr.k (Fr.i (bX7_putNumber_l18 hM) (Fr.b (fun x2_14 => (hih2 _ _ _ hM)))))
theorem bX7_putNumber_l2_n  : ∀ (n : Nat) (v0 : Int32) (v1 : Int32) (v2 : Mem), KS SQr M0 v2 → Fr SQr M0 (mX7_putNumber_l2 135 n v0 v1 v2) := by
  intro n
  induction n with
  | zero => intro v0 v1 v2 h; exact Fr.n
  | succ n IH => intro v0 v1 v2 h; exact bX7_putNumber_b2  IH h
theorem bX7_putNumber_l2  {v0 : Int32} {v1 : Int32} {v2 : Mem} {n : Nat} (h : KS SQr M0 v2) : Fr SQr M0 (mX7_putNumber_l2 135 n v0 v1 v2) := bX7_putNumber_l2_n   n v0 v1 v2 h
theorem bX7_putNumber {x1 : Int32} {M : Mem} (hM : KS SQr M0 M) : Fr SQr M0 (mX7_putNumber 135 x1 M) := by
  unfold mX7_putNumber
  exact (bX7_putNumber_l2 hM)
theorem bX7_putBend_b21 {x1 : Int32} {y1 : Int32} {M : Mem} (hM : KS SQr M0 M) : Fr SQr M0 (mX7_putBend_b21 135 x1 y1 M) := by
  unfold mX7_putBend_b21
  exact (Fr.m (bX7_put hM) (fun M5 _ hM5 => (Fr.k (Fr.c (fun r8 => (Fr.i (Fr.ok hM5) (Fr.m (bX7_put hM5) (fun M13 _ hM13 => (Fr.ok hM13)))))))))
theorem bX7_putBend {x1 : Int32} {M : Mem} (hM : KS SQr M0 M) : Fr SQr M0 (mX7_putBend 135 x1 M) := by
  unfold mX7_putBend
  exact (Fr.k (Fr.i (bX7_putBend_b21 hM) (bX7_putBend_b21 hM)))
theorem bX7_putCost_b6 {ih6 : Int32 → Mem → Option (Mem × Unit)} {x2 : Int32} {M : Mem} (hih6 : ∀ (v0 : Int32) (v1 : Mem), KS SQr M0 v1 → Fr SQr M0 (ih6 v0 v1)) (hM : KS SQr M0 M) : Fr SQr M0 (mX7_putCost_b6 135 ih6 x2 M) := by
  unfold mX7_putCost_b6
  exact (Fr.c (fun r2 => (Fr.i (Fr.c (fun r6 => (Fr.m (bX7_putNumber hM) (fun M10 _ hM10 => (Fr.ok hM10))))) (Fr.c (fun r12 => (Fr.m (bX7_put hM) (fun M16 _ hM16 => (Fr.b (fun x2_23 => (hih6 _ _ hM16))))))))))
theorem bX7_putCost_l6_n  : ∀ (n : Nat) (v0 : Int32) (v1 : Mem), KS SQr M0 v1 → Fr SQr M0 (mX7_putCost_l6 135 n v0 v1) := by
  intro n
  induction n with
  | zero => intro v0 v1 h; exact Fr.n
  | succ n IH => intro v0 v1 h; exact bX7_putCost_b6  IH h
theorem bX7_putCost_l6  {v0 : Int32} {v1 : Mem} {n : Nat} (h : KS SQr M0 v1) : Fr SQr M0 (mX7_putCost_l6 135 n v0 v1) := bX7_putCost_l6_n   n v0 v1 h
theorem bX7_putCost {M : Mem} (hM : KS SQr M0 M) : Fr SQr M0 (mX7_putCost 135 M) := by
  unfold mX7_putCost
  exact (bX7_putCost_l6 hM)
theorem bX7_write_b49 {ih12 : Int32 → Mem → Option (Mem × Int32)} {x1 : Int32} {M : Mem} (hih12 : ∀ (v0 : Int32) (v1 : Mem), KS SQr M0 v1 → Fr SQr M0 (ih12 v0 v1)) (hM : KS SQr M0 M) : Fr SQr M0 (mX7_write_b49 135 ih12 x1 M) := by
  unfold mX7_write_b49
  exact (Fr.b (fun x1_49 => (hih12 _ _ hM)))
theorem bX7_write_b12 {ih12 : Int32 → Mem → Option (Mem × Int32)} {x1 : Int32} {M : Mem} (hih12 : ∀ (v0 : Int32) (v1 : Mem), KS SQr M0 v1 → Fr SQr M0 (ih12 v0 v1)) (hM : KS SQr M0 M) : Fr SQr M0 (mX7_write_b12 135 ih12 x1 M) := by
  unfold mX7_write_b12
  exact (Fr.k (Fr.i (Fr.k (Fr.i (Fr.ok hM) (Fr.m (bX7_putCost hM) (fun M11 _ hM11 => (Fr.ok hM11))))) (Fr.k (Fr.m (bX7_putNumber hM) (fun M15 _ hM15 => (Fr.k (Fr.i (bX7_write_b49 hih12 hM15) (Fr.m (bX7_putBend hM15) (fun M21 _ hM21 => (bX7_write_b49 hih12 hM21))))))))))
theorem bX7_write_l12_n  : ∀ (n : Nat) (v0 : Int32) (v1 : Mem), KS SQr M0 v1 → Fr SQr M0 (mX7_write_l12 135 n v0 v1) := by
  intro n
  induction n with
  | zero => intro v0 v1 h; exact Fr.n
  | succ n IH => intro v0 v1 h; exact bX7_write_b12  IH h
theorem bX7_write_l12  {v0 : Int32} {v1 : Mem} {n : Nat} (h : KS SQr M0 v1) : Fr SQr M0 (mX7_write_l12 135 n v0 v1) := bX7_write_l12_n   n v0 v1 h
theorem bX7_write {M : Mem} (hM : KS SQr M0 M) : Fr SQr M0 (mX7_write 135 M) := by
  unfold mX7_write
  exact (Fr.bw (Or.inl ⟨rfl, by decide⟩) hM (fun M1 hM1 => (Fr.bw (Or.inl ⟨rfl, by decide⟩) hM1 (fun M3 hM3 => (bX7_write_l12 hM3)))))
theorem bX7_written {x1 : Int32} {M : Mem} (hM : KS SQr M0 M) : Fr SQr M0 (mX7_written 135 x1 M) := by
  unfold mX7_written
  exact (Fr.c (fun r2 => (Fr.m (bX7_good hM) (fun M6 r5 hM6 => (Fr.i (Fr.ok hM6) (Fr.k (Fr.k (Fr.ok hM6))))))))
end FFqry
def SPf (k _ : Nat) : Prop := 103 ≤ k ∧ k ≤ 109
section FFpfc
variable {M0 : Mem}
theorem bX2_walk_b272 {k0 : Nat} {k1 : Nat} {ih13 : Int32 → Int32 → Int32 → Int32 → Int32 → Int32 → Int32 → Int32 → Mem → Option (Mem × Unit)} {x3 : Int32} {x5 : Int32} {x6 : Int32} {x7 : Int32} {x8 : Int32} {x9 : Int32} {x10 : Int32} {x11 : Int32} {M : Mem} (hih13 : ∀ (v0 : Int32) (v1 : Int32) (v2 : Int32) (v3 : Int32) (v4 : Int32) (v5 : Int32) (v6 : Int32) (v7 : Int32) (v8 : Mem), KS SPf M0 v8 → Fr SPf M0 (ih13 v0 v1 v2 v3 v4 v5 v6 v7 v8)) (hM : KS SPf M0 M) : Fr SPf M0 (mX2_walk_b272 k0 k1 ih13 x3 x5 x6 x7 x8 x9 x10 x11 M) := by
  unfold mX2_walk_b272
  exact (Fr.b (fun x11_276 => (hih13 _ _ _ _ _ _ _ _ _ hM)))
theorem bX2_walk_b267 {k0 : Nat} {k1 : Nat} {ih13 : Int32 → Int32 → Int32 → Int32 → Int32 → Int32 → Int32 → Int32 → Mem → Option (Mem × Unit)} {x3 : Int32} {x5 : Int32} {x6 : Int32} {x7 : Int32} {x8 : Int32} {x9 : Int32} {x11 : Int32} {y0 : Int32} {y1 : Int32} {M : Mem} (hih13 : ∀ (v0 : Int32) (v1 : Int32) (v2 : Int32) (v3 : Int32) (v4 : Int32) (v5 : Int32) (v6 : Int32) (v7 : Int32) (v8 : Mem), KS SPf M0 v8 → Fr SPf M0 (ih13 v0 v1 v2 v3 v4 v5 v6 v7 v8)) (hM : KS SPf M0 M) : Fr SPf M0 (mX2_walk_b267 k0 k1 ih13 x3 x5 x6 x7 x8 x9 x11 y0 y1 M) := by
  unfold mX2_walk_b267
  exact (Fr.b (fun x10_270 => (bX2_walk_b272 hih13 hM)))
theorem bX2_walk_b249 {k0 : Nat} {k1 : Nat} {ih13 : Int32 → Int32 → Int32 → Int32 → Int32 → Int32 → Int32 → Int32 → Mem → Option (Mem × Unit)} {x3 : Int32} {x5 : Int32} {x6 : Int32} {x7 : Int32} {x8 : Int32} {x9 : Int32} {x10 : Int32} {x11 : Int32} {y0 : Int32} {M : Mem} (hih13 : ∀ (v0 : Int32) (v1 : Int32) (v2 : Int32) (v3 : Int32) (v4 : Int32) (v5 : Int32) (v6 : Int32) (v7 : Int32) (v8 : Mem), KS SPf M0 v8 → Fr SPf M0 (ih13 v0 v1 v2 v3 v4 v5 v6 v7 v8)) (hM : KS SPf M0 M) : Fr SPf M0 (mX2_walk_b249 k0 k1 ih13 x3 x5 x6 x7 x8 x9 x10 x11 y0 M) := by
  unfold mX2_walk_b249
  exact (Fr.i (bX2_walk_b267 hih13 hM) (bX2_walk_b267 hih13 hM))
theorem bX2_walk_b217 {k0 : Nat} {k1 : Nat} {ih13 : Int32 → Int32 → Int32 → Int32 → Int32 → Int32 → Int32 → Int32 → Mem → Option (Mem × Unit)} {x3 : Int32} {x5 : Int32} {x6 : Int32} {x7 : Int32} {x8 : Int32} {x9 : Int32} {x10 : Int32} {x11 : Int32} {y0 : Int32} {M : Mem} (hih13 : ∀ (v0 : Int32) (v1 : Int32) (v2 : Int32) (v3 : Int32) (v4 : Int32) (v5 : Int32) (v6 : Int32) (v7 : Int32) (v8 : Mem), KS SPf M0 v8 → Fr SPf M0 (ih13 v0 v1 v2 v3 v4 v5 v6 v7 v8)) (hM : KS SPf M0 M) : Fr SPf M0 (mX2_walk_b217 k0 k1 ih13 x3 x5 x6 x7 x8 x9 x10 x11 y0 M) := by
  unfold mX2_walk_b217
  exact (Fr.i (bX2_walk_b272 hih13 hM) (Fr.i (bX2_walk_b272 hih13 hM) (Fr.i (bX2_walk_b249 hih13 hM) (bX2_walk_b249 hih13 hM))))
theorem bX2_walk_b108 {k0 : Nat} {k1 : Nat} {ih13 : Int32 → Int32 → Int32 → Int32 → Int32 → Int32 → Int32 → Int32 → Mem → Option (Mem × Unit)} {x3 : Int32} {x5 : Int32} {x6 : Int32} {x7 : Int32} {x8 : Int32} {x9 : Int32} {x10 : Int32} {x11 : Int32} {y1 : Int32} {y2 : Int32} {y3 : Int32} {M : Mem} (wk0 : k0 = 103) (hih13 : ∀ (v0 : Int32) (v1 : Int32) (v2 : Int32) (v3 : Int32) (v4 : Int32) (v5 : Int32) (v6 : Int32) (v7 : Int32) (v8 : Mem), KS SPf M0 v8 → Fr SPf M0 (ih13 v0 v1 v2 v3 v4 v5 v6 v7 v8)) (hM : KS SPf M0 M) : Fr SPf M0 (mX2_walk_b108 k0 k1 ih13 x3 x5 x6 x7 x8 x9 x10 x11 y1 y2 y3 M) := by
  unfold mX2_walk_b108
  exact (Fr.k (Fr.bw (by unfold SPf; omega) hM (fun M15 hM15 => (Fr.k (Fr.k (Fr.bw (by unfold SPf; omega) hM15 (fun M19 hM19 => (Fr.k (Fr.k (Fr.bw (by unfold SPf; omega) hM19 (fun M23 hM23 => (Fr.k (Fr.k (Fr.bw (by unfold SPf; omega) hM23 (fun M27 hM27 => (Fr.k (Fr.k (Fr.bw (by unfold SPf; omega) hM27 (fun M31 hM31 => (Fr.k (Fr.b (fun x8_193 => (Fr.k (Fr.b (fun x9_202 => (Fr.i (bX2_walk_b217 hih13 hM31) (bX2_walk_b217 hih13 hM31)))))))))))))))))))))))))))
theorem bX2_walk_b75 {k0 : Nat} {k1 : Nat} {ih13 : Int32 → Int32 → Int32 → Int32 → Int32 → Int32 → Int32 → Int32 → Mem → Option (Mem × Unit)} {x3 : Int32} {x5 : Int32} {x6 : Int32} {x7 : Int32} {x8 : Int32} {x9 : Int32} {x10 : Int32} {x11 : Int32} {x12 : Int32} {y1 : Int32} {y2 : Int32} {y3 : Int32} {M : Mem} (wk0 : k0 = 103) (hih13 : ∀ (v0 : Int32) (v1 : Int32) (v2 : Int32) (v3 : Int32) (v4 : Int32) (v5 : Int32) (v6 : Int32) (v7 : Int32) (v8 : Mem), KS SPf M0 v8 → Fr SPf M0 (ih13 v0 v1 v2 v3 v4 v5 v6 v7 v8)) (hM : KS SPf M0 M) : Fr SPf M0 (mX2_walk_b75 k0 k1 ih13 x3 x5 x6 x7 x8 x9 x10 x11 x12 y1 y2 y3 M) := by
  unfold mX2_walk_b75
  exact (Fr.k (Fr.bw (by unfold SPf; omega) hM (fun M10 hM10 => (Fr.i (bX2_walk_b108 (by omega) hih13 hM10) (Fr.i (bX2_walk_b108 (by omega) hih13 hM10) (bX2_walk_b108 (by omega) hih13 hM10))))))
theorem bX2_walk_b13 {k0 : Nat} {k1 : Nat} {ih13 : Int32 → Int32 → Int32 → Int32 → Int32 → Int32 → Int32 → Int32 → Mem → Option (Mem × Unit)} {x3 : Int32} {x5 : Int32} {x6 : Int32} {x7 : Int32} {x8 : Int32} {x9 : Int32} {x10 : Int32} {x11 : Int32} {M : Mem} (wk0 : k0 = 103) (hih13 : ∀ (v0 : Int32) (v1 : Int32) (v2 : Int32) (v3 : Int32) (v4 : Int32) (v5 : Int32) (v6 : Int32) (v7 : Int32) (v8 : Mem), KS SPf M0 v8 → Fr SPf M0 (ih13 v0 v1 v2 v3 v4 v5 v6 v7 v8)) (hM : KS SPf M0 M) : Fr SPf M0 (mX2_walk_b13 k0 k1 ih13 x3 x5 x6 x7 x8 x9 x10 x11 M) := by
  unfold mX2_walk_b13
  exact (Fr.i (Fr.ok hM) (Fr.i (Fr.ok hM) (Fr.i (Fr.ok hM) (Fr.k (Fr.b (fun x12_41 => (Fr.i (bX2_walk_b75 (by omega) hih13 hM) (Fr.i (bX2_walk_b75 (by omega) hih13 hM) (bX2_walk_b75 (by omega) hih13 hM)))))))))
theorem bX2_walk_l13_n {k0 : Nat} {k1 : Nat} (wk0 : k0 = 103) : ∀ (n : Nat) (v0 : Int32) (v1 : Int32) (v2 : Int32) (v3 : Int32) (v4 : Int32) (v5 : Int32) (v6 : Int32) (v7 : Int32) (v8 : Mem), KS SPf M0 v8 → Fr SPf M0 (mX2_walk_l13 k0 k1 n v0 v1 v2 v3 v4 v5 v6 v7 v8) := by
  intro n
  induction n with
  | zero => intro v0 v1 v2 v3 v4 v5 v6 v7 v8 h; exact Fr.n
  | succ n IH => intro v0 v1 v2 v3 v4 v5 v6 v7 v8 h; exact bX2_walk_b13 (by omega) IH h
theorem bX2_walk_l13 {k0 : Nat} {k1 : Nat} {v0 : Int32} {v1 : Int32} {v2 : Int32} {v3 : Int32} {v4 : Int32} {v5 : Int32} {v6 : Int32} {v7 : Int32} {v8 : Mem} (wk0 : k0 = 103) {n : Nat} (h : KS SPf M0 v8) : Fr SPf M0 (mX2_walk_l13 k0 k1 n v0 v1 v2 v3 v4 v5 v6 v7 v8) := bX2_walk_l13_n wk0  n v0 v1 v2 v3 v4 v5 v6 v7 v8 h
theorem bX2_walk {k0 : Nat} {k1 : Nat} {x2 : Int32} {x3 : Int32} {x4 : Int32} {x5 : Int32} {x6 : Int32} {x7 : Int32} {M : Mem} (wk0 : k0 = 103) (hM : KS SPf M0 M) : Fr SPf M0 (mX2_walk k0 k1 x2 x3 x4 x5 x6 x7 M) := by
  unfold mX2_walk
  exact (bX2_walk_l13 (by omega) hM)
theorem bX2_layFinished {k0 : Nat} {k1 : Nat} {M : Mem} (wk0 : k0 = 103) (hM : KS SPf M0 M) : Fr SPf M0 (mX2_layFinished k0 k1 M) := by
  unfold mX2_layFinished
  exact (Fr.bw (by unfold SPf; omega) hM (fun M1 hM1 => (Fr.c (fun r4 => (Fr.m (bX2_walk (by omega) hM1) (fun M8 _ hM8 => (Fr.ok hM8)))))))
theorem bX2_layStep_b27 {k0 : Nat} {k1 : Nat} {x2 : Int32} {x3 : Int32} {x4 : Int32} {y0 : Int32} {M : Mem} (wk0 : k0 = 103) (hM : KS SPf M0 M) : Fr SPf M0 (mX2_layStep_b27 k0 k1 x2 x3 x4 y0 M) := by
  unfold mX2_layStep_b27
  exact (Fr.bw (by unfold SPf; omega) hM (fun M6 hM6 => (Fr.i (Fr.bw (by unfold SPf; omega) hM6 (fun M19 hM19 => (Fr.bw (by unfold SPf; omega) hM19 (fun M21 hM21 => (Fr.m (bX2_walk (by omega) hM21) (fun M25 _ hM25 => (Fr.m (bX2_walk (by omega) hM25) (fun M28 _ hM28 => (Fr.ok hM28))))))))) (Fr.bw (by unfold SPf; omega) hM6 (fun M9 hM9 => (Fr.bw (by unfold SPf; omega) hM9 (fun M11 hM11 => (Fr.m (bX2_walk (by omega) hM11) (fun M15 _ hM15 => (Fr.m (bX2_walk (by omega) hM15) (fun M18 _ hM18 => (Fr.ok hM18))))))))))))
theorem bX2_layStep {k0 : Nat} {k1 : Nat} {x2 : Int32} {x3 : Int32} {M : Mem} (wk0 : k0 = 103) (hM : KS SPf M0 M) : Fr SPf M0 (mX2_layStep k0 k1 x2 x3 M) := by
  unfold mX2_layStep
  exact (Fr.b (fun x4_3 => (Fr.c (fun r3 => (Fr.i (bX2_layStep_b27 (by omega) hM) (bX2_layStep_b27 (by omega) hM))))))
theorem bX2_reasonFor_b20 {k0 : Nat} {k1 : Nat} {x2 : Int32} {x3 : Int32} {x4 : Int32} {y0 : Int32} {M : Mem} (wk0 : k0 = 103) (hM : KS SPf M0 M) : Fr SPf M0 (mX2_reasonFor_b20 k0 k1 x2 x3 x4 y0 M) := by
  unfold mX2_reasonFor_b20
  exact (Fr.i (Fr.i (Fr.ok hM) (Fr.i (Fr.ok hM) (Fr.k (Fr.k (Fr.i (Fr.m (bX2_layStep (by omega) hM) (fun M11 _ hM11 => (Fr.c (fun r13 => (Fr.k (Fr.i (Fr.ok hM11) (Fr.k (Fr.i (Fr.c (fun r20 => (Fr.b (fun x8_123 => (Fr.i (Fr.i (Fr.c (fun r26 => (Fr.i (Fr.ok hM11) (Fr.ok hM11)))) (Fr.ok hM11)) (Fr.ok hM11)))))) (Fr.ok hM11))))))))) (Fr.ok hM)))))) (Fr.ok hM))
theorem bX2_reasonFor {k0 : Nat} {k1 : Nat} {x2 : Int32} {x3 : Int32} {M : Mem} (wk0 : k0 = 103) (hM : KS SPf M0 M) : Fr SPf M0 (mX2_reasonFor k0 k1 x2 x3 M) := by
  unfold mX2_reasonFor
  exact (Fr.b (fun x4_3 => (Fr.i (bX2_reasonFor_b20 (by omega) hM) (bX2_reasonFor_b20 (by omega) hM))))
theorem bX2_possibleSteps_b34 {k0 : Nat} {k1 : Nat} {ih5 : Int32 → Int32 → Int32 → Mem → Option (Mem × Int32)} {x2 : Int32} {x3 : Int32} {x4 : Int32} {M : Mem} (hih5 : ∀ (v0 : Int32) (v1 : Int32) (v2 : Int32) (v3 : Mem), KS SPf M0 v3 → Fr SPf M0 (ih5 v0 v1 v2 v3)) (hM : KS SPf M0 M) : Fr SPf M0 (mX2_possibleSteps_b34 k0 k1 ih5 x2 x3 x4 M) := by
  unfold mX2_possibleSteps_b34
  exact (Fr.b (fun x4_34 => (hih5 _ _ _ _ hM)))
theorem bX2_possibleSteps_b5 {k0 : Nat} {k1 : Nat} {ih5 : Int32 → Int32 → Int32 → Mem → Option (Mem × Int32)} {x2 : Int32} {x3 : Int32} {x4 : Int32} {M : Mem} (wk0 : k0 = 103) (hih5 : ∀ (v0 : Int32) (v1 : Int32) (v2 : Int32) (v3 : Mem), KS SPf M0 v3 → Fr SPf M0 (ih5 v0 v1 v2 v3)) (hM : KS SPf M0 M) : Fr SPf M0 (mX2_possibleSteps_b5 k0 k1 ih5 x2 x3 x4 M) := by
  unfold mX2_possibleSteps_b5
  exact (Fr.c (fun r2 => (Fr.i (Fr.ok hM) (Fr.m (bX2_reasonFor (by omega) hM) (fun M7 r6 hM7 => (Fr.i (Fr.b (fun x3_33 => (bX2_possibleSteps_b34 hih5 hM7))) (bX2_possibleSteps_b34 hih5 hM7)))))))
theorem bX2_possibleSteps_l5_n {k0 : Nat} {k1 : Nat} (wk0 : k0 = 103) : ∀ (n : Nat) (v0 : Int32) (v1 : Int32) (v2 : Int32) (v3 : Mem), KS SPf M0 v3 → Fr SPf M0 (mX2_possibleSteps_l5 k0 k1 n v0 v1 v2 v3) := by
  intro n
  induction n with
  | zero => intro v0 v1 v2 v3 h; exact Fr.n
  | succ n IH => intro v0 v1 v2 v3 h; exact bX2_possibleSteps_b5 (by omega) IH h
theorem bX2_possibleSteps_l5 {k0 : Nat} {k1 : Nat} {v0 : Int32} {v1 : Int32} {v2 : Int32} {v3 : Mem} (wk0 : k0 = 103) {n : Nat} (h : KS SPf M0 v3) : Fr SPf M0 (mX2_possibleSteps_l5 k0 k1 n v0 v1 v2 v3) := bX2_possibleSteps_l5_n wk0  n v0 v1 v2 v3 h
theorem bX2_possibleSteps {k0 : Nat} {k1 : Nat} {x2 : Int32} {M : Mem} (wk0 : k0 = 103) (hM : KS SPf M0 M) : Fr SPf M0 (mX2_possibleSteps k0 k1 x2 M) := by
  unfold mX2_possibleSteps
  exact (bX2_possibleSteps_l5 (by omega) hM)
theorem bX6_requireLeg_b21 {k0 : Nat} {M : Mem} (hM : KS SPf M0 M) : Fr SPf M0 (mX6_requireLeg_b21 k0 M) := by
  unfold mX6_requireLeg_b21
  exact (Fr.ok hM)
theorem bX6_requireLeg {k0 : Nat} {x1 : Int32} {M : Mem} (hM : KS SPf M0 M) : Fr SPf M0 (mX6_requireLeg k0 x1 M) := by
  unfold mX6_requireLeg
  exact (Fr.i (bX6_requireLeg_b21 hM) (Fr.i (bX6_requireLeg_b21 hM) (Fr.i (Fr.ok hM) (bX6_requireLeg_b21 hM))))
theorem bX6_leg {k0 : Nat} {x1 : Int32} {M : Mem} (hM : KS SPf M0 M) : Fr SPf M0 (mX6_leg k0 x1 M) := by
  unfold mX6_leg
  exact (Fr.x (bX6_requireLeg hM) (fun M3 _ hM3 => (Fr.k (Fr.ok hM3))))
theorem bX6_requireBend_b21 {k0 : Nat} {M : Mem} (hM : KS SPf M0 M) : Fr SPf M0 (mX6_requireBend_b21 k0 M) := by
  unfold mX6_requireBend_b21
  exact (Fr.ok hM)
theorem bX6_requireBend {k0 : Nat} {x1 : Int32} {M : Mem} (hM : KS SPf M0 M) : Fr SPf M0 (mX6_requireBend k0 x1 M) := by
  unfold mX6_requireBend
  exact (Fr.i (bX6_requireBend_b21 hM) (Fr.c (fun r3 => (Fr.i (bX6_requireBend_b21 hM) (Fr.i (Fr.ok hM) (bX6_requireBend_b21 hM))))))
theorem bX6_isUp {k0 : Nat} {x1 : Int32} {M : Mem} (hM : KS SPf M0 M) : Fr SPf M0 (mX6_isUp k0 x1 M) := by
  unfold mX6_isUp
  exact (Fr.x (bX6_requireBend hM) (fun M3 _ hM3 => (Fr.c (fun r6 => (Fr.k (Fr.ok hM3))))))
theorem bX6_linePlace {k0 : Nat} {x1 : Int32} {M : Mem} (hM : KS SPf M0 M) : Fr SPf M0 (mX6_linePlace k0 x1 M) := by
  unfold mX6_linePlace
  exact (Fr.x (bX6_requireBend hM) (fun M3 _ hM3 => (Fr.c (fun r6 => (Fr.k (Fr.c (fun r10 => (Fr.k (Fr.k (Fr.ok hM3))))))))))
theorem bX6_springBackFor_b19 {k0 : Nat} {x1 : UInt64} {y0 : Int32} {M : Mem} (hM : KS SPf M0 M) : Fr SPf M0 (mX6_springBackFor_b19 k0 x1 y0 M) := by
  unfold mX6_springBackFor_b19
  exact (Fr.i (Fr.ok hM) (Fr.c (fun r4 => (Fr.ok hM))))
theorem bX6_springBackFor_b18 {k0 : Nat} {x1 : UInt64} {M : Mem} (hM : KS SPf M0 M) : Fr SPf M0 (mX6_springBackFor_b18 k0 x1 M) := by
  unfold mX6_springBackFor_b18
  exact (bX6_springBackFor_b19 hM)
theorem bX6_springBackFor {k0 : Nat} {x1 : UInt64} {M : Mem} (hM : KS SPf M0 M) : Fr SPf M0 (mX6_springBackFor k0 x1 M) := by
  unfold mX6_springBackFor
  exact (Fr.i (bX6_springBackFor_b18 hM) (Fr.i (bX6_springBackFor_b18 hM) (bX6_springBackFor_b19 hM)))
theorem bX6_tool_b21 {k0 : Nat} {M : Mem} (hM : KS SPf M0 M) : Fr SPf M0 (mX6_tool_b21 k0 M) := by
  unfold mX6_tool_b21
  exact (Fr.ok hM)
theorem bX6_tool {k0 : Nat} {x1 : Int32} {x2 : Int32} {M : Mem} (hM : KS SPf M0 M) : Fr SPf M0 (mX6_tool k0 x1 x2 M) := by
  unfold mX6_tool
  exact (Fr.c (fun r2 => (Fr.o (bX6_tool_b21 hM) (fun w4 => (Fr.k (Fr.i (bX6_tool_b21 hM) (Fr.c (fun r8 => (Fr.i (Fr.k (Fr.ok hM)) (bX6_tool_b21 hM))))))))))
theorem bX6_finishedWidth {k0 : Nat} {M : Mem} (hM : KS SPf M0 M) : Fr SPf M0 (mX6_finishedWidth k0 M) := by
  unfold mX6_finishedWidth
  exact (Fr.m (bX2_layFinished (by omega) hM) (fun M3 _ hM3 => (Fr.c (fun r5 => (Fr.ok hM3)))))
theorem bX6_finishedHeight {k0 : Nat} {M : Mem} (hM : KS SPf M0 M) : Fr SPf M0 (mX6_finishedHeight k0 M) := by
  unfold mX6_finishedHeight
  exact (Fr.m (bX2_layFinished (by omega) hM) (fun M3 _ hM3 => (Fr.c (fun r5 => (Fr.ok hM3)))))
theorem bX6_isFinishedCrossed {k0 : Nat} {M : Mem} (hM : KS SPf M0 M) : Fr SPf M0 (mX6_isFinishedCrossed k0 M) := by
  unfold mX6_isFinishedCrossed
  exact (Fr.m (bX2_layFinished (by omega) hM) (fun M3 _ hM3 => (Fr.c (fun r5 => (Fr.k (Fr.ok hM3))))))
theorem bX6_requireChoice_b9 {M : Mem} (hM : KS SPf M0 M) : Fr SPf M0 (mX6_requireChoice_b9 M) := by
  unfold mX6_requireChoice_b9
  exact (Fr.ok hM)
theorem bX6_requireChoice {x0 : Int32} {x1 : Int32} {M : Mem} (hM : KS SPf M0 M) : Fr SPf M0 (mX6_requireChoice x0 x1 M) := by
  unfold mX6_requireChoice
  exact (Fr.i (bX6_requireChoice_b9 hM) (Fr.i (Fr.ok hM) (bX6_requireChoice_b9 hM)))
theorem bX6_finishedCorner {k0 : Nat} {x1 : Int32} {x2 : Int32} {M : Mem} (hM : KS SPf M0 M) : Fr SPf M0 (mX6_finishedCorner k0 x1 x2 M) := by
  unfold mX6_finishedCorner
  exact (Fr.x (bX6_requireLeg hM) (fun M3 _ hM3 => (Fr.x (bX6_requireChoice hM3) (fun M7 _ hM7 => (Fr.m (bX2_layFinished (by omega) hM7) (fun M11 _ hM11 => (Fr.i (Fr.k (Fr.ok hM11)) (Fr.k (Fr.ok hM11)))))))))
theorem bX6_step_b21 {k0 : Nat} {M : Mem} (hM : KS SPf M0 M) : Fr SPf M0 (mX6_step_b21 k0 M) := by
  unfold mX6_step_b21
  exact (Fr.ok hM)
theorem bX6_step {k0 : Nat} {x1 : Int32} {x2 : Int32} {M : Mem} (hM : KS SPf M0 M) : Fr SPf M0 (mX6_step k0 x1 x2 M) := by
  unfold mX6_step
  exact (Fr.i (bX6_step_b21 hM) (Fr.i (bX6_step_b21 hM) (Fr.i (Fr.x (bX6_requireChoice hM) (fun M6 _ hM6 => (Fr.i (Fr.k (Fr.ok hM6)) (Fr.i (Fr.k (Fr.ok hM6)) (Fr.i (Fr.k (Fr.ok hM6)) (Fr.k (Fr.ok hM6))))))) (bX6_step_b21 hM))))
theorem bX6_requireStep {k0 : Nat} {x1 : Int32} {x2 : Int32} {M : Mem} (hM : KS SPf M0 M) : Fr SPf M0 (mX6_requireStep k0 x1 x2 M) := by
  unfold mX6_requireStep
  exact (Fr.x (bX6_requireBend hM) (fun M3 _ hM3 => (Fr.x (bX6_requireChoice hM3) (fun M7 _ hM7 => (Fr.ok hM7)))))
theorem bX6_reasonNow {k0 : Nat} {x1 : Int32} {M : Mem} (hM : KS SPf M0 M) : Fr SPf M0 (mX6_reasonNow k0 x1 M) := by
  unfold mX6_reasonNow
  exact (Fr.m (bX2_reasonFor (by omega) hM) (fun M3 r2 hM3 => (Fr.ok hM3)))
theorem bX6_corner {k0 : Nat} {x1 : Int32} {x2 : Int32} {x3 : Int32} {x4 : Int32} {M : Mem} (hM : KS SPf M0 M) : Fr SPf M0 (mX6_corner k0 x1 x2 x3 x4 M) := by
  unfold mX6_corner
  exact (Fr.x (bX6_requireBend hM) (fun M3 _ hM3 => (Fr.x (bX6_requireLeg hM3) (fun M7 _ hM7 => (Fr.x (bX6_requireChoice hM7) (fun M11 _ hM11 => (Fr.x (bX6_requireChoice hM11) (fun M15 _ hM15 => (Fr.m (bX2_layStep (by omega) hM15) (fun M19 _ hM19 => (Fr.i (Fr.k (Fr.ok hM19)) (Fr.k (Fr.ok hM19)))))))))))))
theorem bX6_top {k0 : Nat} {x1 : Int32} {x2 : Int32} {M : Mem} (hM : KS SPf M0 M) : Fr SPf M0 (mX6_top k0 x1 x2 M) := by
  unfold mX6_top
  exact (Fr.x (bX6_requireStep hM) (fun M3 _ hM3 => (Fr.m (bX2_layStep (by omega) hM3) (fun M7 _ hM7 => (Fr.c (fun r9 => (Fr.ok hM7)))))))
theorem bX6_hitting {k0 : Nat} {x1 : Int32} {x2 : Int32} {M : Mem} (hM : KS SPf M0 M) : Fr SPf M0 (mX6_hitting k0 x1 x2 M) := by
  unfold mX6_hitting
  exact (Fr.x (bX6_requireStep hM) (fun M3 _ hM3 => (Fr.m (bX2_layStep (by omega) hM3) (fun M7 _ hM7 => (Fr.c (fun r9 => (Fr.ok hM7)))))))
theorem bX6_refused_b11 {k0 : Nat} {M : Mem} (hM : KS SPf M0 M) : Fr SPf M0 (mX6_refused_b11 k0 M) := by
  unfold mX6_refused_b11
  exact (Fr.ok hM)
theorem bX6_refused_b50 {k0 : Nat} {ih25 : Int32 → Int32 → Int32 → Mem → Option (Mem × (Int32 ⊕ Nat))} {x1 : Int32} {x2 : Int32} {x3 : Int32} {M : Mem} (hih25 : ∀ (v0 : Int32) (v1 : Int32) (v2 : Int32) (v3 : Mem), KS SPf M0 v3 → Fr SPf M0 (ih25 v0 v1 v2 v3)) (hM : KS SPf M0 M) : Fr SPf M0 (mX6_refused_b50 k0 ih25 x1 x2 x3 M) := by
  unfold mX6_refused_b50
  exact (Fr.b (fun x3_50 => (hih25 _ _ _ _ hM)))
theorem bX6_refused_b25 {k0 : Nat} {ih25 : Int32 → Int32 → Int32 → Mem → Option (Mem × (Int32 ⊕ Nat))} {x1 : Int32} {x2 : Int32} {x3 : Int32} {M : Mem} (hih25 : ∀ (v0 : Int32) (v1 : Int32) (v2 : Int32) (v3 : Mem), KS SPf M0 v3 → Fr SPf M0 (ih25 v0 v1 v2 v3)) (hM : KS SPf M0 M) : Fr SPf M0 (mX6_refused_b25 k0 ih25 x1 x2 x3 M) := by
  unfold mX6_refused_b25
  exact (Fr.c (fun r4 => (Fr.i (Fr.ok hM) (Fr.m (bX6_reasonNow hM) (fun M9 r8 hM9 => (Fr.i (Fr.b (fun x2_47 => (bX6_refused_b50 hih25 hM9))) (bX6_refused_b50 hih25 hM9)))))))
theorem bX6_refused_l25_n {k0 : Nat} : ∀ (n : Nat) (v0 : Int32) (v1 : Int32) (v2 : Int32) (v3 : Mem), KS SPf M0 v3 → Fr SPf M0 (mX6_refused_l25 k0 n v0 v1 v2 v3) := by
  intro n
  induction n with
  | zero => intro v0 v1 v2 v3 h; exact Fr.n
  | succ n IH => intro v0 v1 v2 v3 h; exact bX6_refused_b25  IH h
theorem bX6_refused_l25 {k0 : Nat} {v0 : Int32} {v1 : Int32} {v2 : Int32} {v3 : Mem} {n : Nat} (h : KS SPf M0 v3) : Fr SPf M0 (mX6_refused_l25 k0 n v0 v1 v2 v3) := bX6_refused_l25_n   n v0 v1 v2 v3 h
theorem bX6_refused {k0 : Nat} {x1 : Int32} {M : Mem} (hM : KS SPf M0 M) : Fr SPf M0 (mX6_refused k0 x1 M) := by
  unfold mX6_refused
  exact (Fr.i (bX6_refused_b11 hM) (Fr.i (bX6_refused_l25 hM) (bX6_refused_b11 hM)))
theorem bX6_possible {k0 : Nat} {M : Mem} (hM : KS SPf M0 M) : Fr SPf M0 (mX6_possible k0 M) := by
  unfold mX6_possible
  exact (Fr.m (bX2_possibleSteps (by omega) hM) (fun M3 r2 hM3 => (Fr.ok hM3)))
theorem bX6_stuck_b73 {k0 : Nat} {ih23 : Int32 → Int32 → Int32 → Mem → Option (Mem × Int32)} {x1 : Int32} {x2 : Int32} {x3 : Int32} {M : Mem} (hih23 : ∀ (v0 : Int32) (v1 : Int32) (v2 : Int32) (v3 : Mem), KS SPf M0 v3 → Fr SPf M0 (ih23 v0 v1 v2 v3)) (hM : KS SPf M0 M) : Fr SPf M0 (mX6_stuck_b73 k0 ih23 x1 x2 x3 M) := by
  unfold mX6_stuck_b73
  exact (Fr.b (fun x3_73 => (hih23 _ _ _ _ hM)))
theorem bX6_stuck_b53 {k0 : Nat} {ih23 : Int32 → Int32 → Int32 → Mem → Option (Mem × Int32)} {x1 : Int32} {x2 : Int32} {x3 : Int32} {y0 : Int32} {M : Mem} (hih23 : ∀ (v0 : Int32) (v1 : Int32) (v2 : Int32) (v3 : Mem), KS SPf M0 v3 → Fr SPf M0 (ih23 v0 v1 v2 v3)) (hM : KS SPf M0 M) : Fr SPf M0 (mX6_stuck_b53 k0 ih23 x1 x2 x3 y0 M) := by
  unfold mX6_stuck_b53
  exact (Fr.i (Fr.i (Fr.b (fun x2_70 => (bX6_stuck_b73 hih23 hM))) (bX6_stuck_b73 hih23 hM)) (bX6_stuck_b73 hih23 hM))
theorem bX6_stuck_b23 {k0 : Nat} {ih23 : Int32 → Int32 → Int32 → Mem → Option (Mem × Int32)} {x1 : Int32} {x2 : Int32} {x3 : Int32} {M : Mem} (hih23 : ∀ (v0 : Int32) (v1 : Int32) (v2 : Int32) (v3 : Mem), KS SPf M0 v3 → Fr SPf M0 (ih23 v0 v1 v2 v3)) (hM : KS SPf M0 M) : Fr SPf M0 (mX6_stuck_b23 k0 ih23 x1 x2 x3 M) := by
  unfold mX6_stuck_b23
  exact (Fr.c (fun r5 => (Fr.i (Fr.ok hM) (Fr.i (bX6_stuck_b53 hih23 hM) (bX6_stuck_b53 hih23 hM)))))
theorem bX6_stuck_l23_n {k0 : Nat} : ∀ (n : Nat) (v0 : Int32) (v1 : Int32) (v2 : Int32) (v3 : Mem), KS SPf M0 v3 → Fr SPf M0 (mX6_stuck_l23 k0 n v0 v1 v2 v3) := by
  intro n
  induction n with
  | zero => intro v0 v1 v2 v3 h; exact Fr.n
  | succ n IH => intro v0 v1 v2 v3 h; exact bX6_stuck_b23  IH h
theorem bX6_stuck_l23 {k0 : Nat} {v0 : Int32} {v1 : Int32} {v2 : Int32} {v3 : Mem} {n : Nat} (h : KS SPf M0 v3) : Fr SPf M0 (mX6_stuck_l23 k0 n v0 v1 v2 v3) := bX6_stuck_l23_n   n v0 v1 v2 v3 h
theorem bX6_stuck {k0 : Nat} {M : Mem} (hM : KS SPf M0 M) : Fr SPf M0 (mX6_stuck k0 M) := by
  unfold mX6_stuck
  exact (Fr.m (bX2_possibleSteps (by omega) hM) (fun M3 r2 hM3 => (bX6_stuck_l23 hM3)))
theorem bX6_written_b15 {k0 : Nat} {g : Int32} {M : Mem} (hM : KS SPf M0 M) : Fr SPf M0 (mX6_written_b15 k0 g M) := by
  unfold mX6_written_b15
  exact (Fr.ok hM)
theorem bX6_written {k0 : Nat} {x1 : Int32} {M : Mem} (hM : KS SPf M0 M) : Fr SPf M0 (mX6_written k0 x1 M) := by
  unfold mX6_written
  exact (Fr.i (bX6_written_b15 hM) (Fr.c (fun r3 => (Fr.i (Fr.c (fun r7 => (Fr.k (Fr.ok hM)))) (bX6_written_b15 hM)))))
end FFpfc
/-! what writing writes (printed) -/
abbrev SW (k _ : Nat) : Prop := 133 ≤ k
section FFwrc
variable {M0 : Mem}
theorem sbw_5 {v : Int32} : 133 ≤ sbv 133 v := by
  unfold sbv
  split
  · omega
  · split <;> omega
theorem zJ6_getChars_ba4f3_b104 {k0 : Nat} {n0 : Nat} {x5 : Int32} {x6 : Int32} {M : Mem} (wk0 : 133 ≤ k0) (hM : KS SW M0 M) : Fr SW M0 (mJ6_getChars_ba4f3_b104 k0 n0 x5 x6 M) := by
  unfold mJ6_getChars_ba4f3_b104
  exact (Fr.i (Fr.ok hM) (Fr.b (fun x5_110 => (Fr.k (Fr.bw (show 133 ≤ _ by first | omega | exact sbw_5) hM (fun M14 hM14 => (Fr.ok hM14)))))))
theorem zJ6_getChars_ba4f3_b22 {k0 : Nat} {n0 : Nat} {ih22 : Int32 → Int32 → Int32 → Mem → Option (Mem × Int32)} {x0 : Int32} {x5 : Int32} {x6 : Int32} {M : Mem} (wk0 : 133 ≤ k0) (hih22 : ∀ (v0 : Int32) (v1 : Int32) (v2 : Int32) (v3 : Mem), KS SW M0 v3 → Fr SW M0 (ih22 v0 v1 v2 v3)) (hM : KS SW M0 M) : Fr SW M0 (mJ6_getChars_ba4f3_b22 k0 n0 ih22 x0 x5 x6 M) := by
  unfold mJ6_getChars_ba4f3_b22
  exact (Fr.i (Fr.b (fun x5_73 => (Fr.k (Fr.k (Fr.bw (show 133 ≤ _ by first | omega | exact sbw_5) hM (fun M8 hM8 => (Fr.i (zJ6_getChars_ba4f3_b104 (by first | omega | exact sbw_5) hM8) (Fr.b (fun x5_92 => (Fr.k (Fr.k (Fr.bw (show 133 ≤ _ by first | omega | exact sbw_5) hM8 (fun M19 hM19 => (zJ6_getChars_ba4f3_b104 (by first | omega | exact sbw_5) hM19)))))))))))))) (Fr.b (fun x3_32 => (Fr.b (fun x4_39 => (Fr.b (fun x5_44 => (Fr.k (Fr.k (Fr.bw (show 133 ≤ _ by first | omega | exact sbw_5) hM (fun M26 hM26 => (Fr.b (fun x5_57 => (Fr.k (Fr.k (Fr.bw (show 133 ≤ _ by first | omega | exact sbw_5) hM26 (fun M31 hM31 => (hih22 _ _ _ _ hM31))))))))))))))))))
theorem zJ6_getChars_ba4f3_l22_n {k0 : Nat} {n0 : Nat} (wk0 : 133 ≤ k0) : ∀ (n : Nat) (v0 : Int32) (v1 : Int32) (v2 : Int32) (v3 : Mem), KS SW M0 v3 → Fr SW M0 (mJ6_getChars_ba4f3_l22 k0 n0 n v0 v1 v2 v3) := by
  intro n
  induction n with
  | zero => intro v0 v1 v2 v3 h; exact Fr.n
  | succ n IH => intro v0 v1 v2 v3 h; exact zJ6_getChars_ba4f3_b22 (by omega) IH h
theorem zJ6_getChars_ba4f3_l22 {k0 : Nat} {n0 : Nat} {v0 : Int32} {v1 : Int32} {v2 : Int32} {v3 : Mem} (wk0 : 133 ≤ k0) {n : Nat} (h : KS SW M0 v3) : Fr SW M0 (mJ6_getChars_ba4f3_l22 k0 n0 n v0 v1 v2 v3) := zJ6_getChars_ba4f3_l22_n wk0  n v0 v1 v2 v3 h
theorem zJ6_getChars_ba4f3_b12 {k0 : Nat} {n0 : Nat} {x0 : Int32} {x5 : Int32} {y0 : Int32} {M : Mem} (wk0 : 133 ≤ k0) (hM : KS SW M0 M) : Fr SW M0 (mJ6_getChars_ba4f3_b12 k0 n0 x0 x5 y0 M) := by
  unfold mJ6_getChars_ba4f3_b12
  exact (Fr.i (Fr.b (fun x0_21 => (zJ6_getChars_ba4f3_l22 (by first | omega | exact sbw_5) hM))) (zJ6_getChars_ba4f3_l22 (by first | omega | exact sbw_5) hM))
theorem zJ6_getChars_ba4f3 {k0 : Nat} {n0 : Nat} {x0 : Int32} {x1 : Int32} {M : Mem} (wk0 : 133 ≤ k0) (hM : KS SW M0 M) : Fr SW M0 (mJ6_getChars_ba4f3 k0 n0 x0 x1 M) := by
  unfold mJ6_getChars_ba4f3
  exact (Fr.i (zJ6_getChars_ba4f3_b12 (by first | omega | exact sbw_5) hM) (zJ6_getChars_ba4f3_b12 (by first | omega | exact sbw_5) hM))
theorem ks_zrw {k : Nat} {M : Mem} (h : KS SW M0 M) (hk : 133 ≤ k) : KS SW M0 (zr M k) := fun k' j' q => by
  have e : k' ≠ k := fun e => q (by show 133 ≤ k'; omega)
  rw [← h k' j' q]
  show (if k' = k then (fun _ => 0) else M.1 k') j' = M.1 k' j'
  rw [if_neg e]
theorem zJ5_ensureCapacityInternal_d00df {x1 : Int32} {M : Mem} (hM : KS SW M0 M) : Fr SW M0 (mJ5_ensureCapacityInternal_d00df x1 M) := by
  unfold mJ5_ensureCapacityInternal_d00df
  refine Fr.b (fun x2_10 => Fr.i (Fr.ok hM) (Fr.c (fun r6 => Fr.k (Fr.bw (show 133 ≤ _ by omega) ?_ (fun M9 h9 => Fr.ok h9)))))
  exact (ks_zrw hM sbw_5).cp (fun _ => sbw_5)
theorem ks_cpSw {a b c : Nat} {M : Mem} (h : KS SW M0 M) (hk : 133 ≤ b) : KS SW M0 (cpS M a b c) := fun k' j' q => by
  have e : k' ≠ b := fun e => q (by show 133 ≤ k'; omega)
  rw [← h k' j' q]
  exact congrFun (cpS_o (M := M) (i := a) (b := b) (dp := c) k' e).1 j'
theorem zJ0_getBytes_840e7 {k0 : Nat} {k1 : Nat} {n1 : Nat} {x2 : Int32} {x3 : Int32} {M : Mem} (wk1 : 133 ≤ k1) (hM : KS SW M0 M) : Fr SW M0 (mJ0_getBytes_840e7 k0 k1 n1 x2 x3 M) := by
  unfold mJ0_getBytes_840e7
  exact Fr.c (fun r2 => Fr.i (Fr.k (show Fr SW M0 (some (_, ())) from Fr.ok (ks_cpSw hM wk1))) Fr.n)
theorem zJ5_putStringAt_47b60 {k0 : Nat} {x1 : Int32} {M : Mem} (hM : KS SW M0 M) : Fr SW M0 (mJ5_putStringAt_47b60 k0 x1 M) := by
  unfold mJ5_putStringAt_47b60
  exact (Fr.c (fun r2 => (Fr.m (zJ0_getBytes_840e7 (by first | omega | exact sbw_5) hM) (fun M7 _ hM7 => (Fr.ok hM7)))))
theorem zJ5_append_3fe6f_b45 {g : Int32} {x1 : Int32} {M : Mem} (hM : KS SW M0 M) : Fr SW M0 (mJ5_append_3fe6f_b45 g x1 M) := by
  unfold mJ5_append_3fe6f_b45
  exact (Fr.k (Fr.c (fun r10 => (Fr.i (Fr.k (Fr.bw (show 133 ≤ _ by first | omega | exact sbw_5) hM (fun M14 hM14 => Fr.n))) Fr.n))))
theorem zJ5_append_3fe6f {x1 : Int32} {M : Mem} (hM : KS SW M0 M) : Fr SW M0 (mJ5_append_3fe6f x1 M) := by
  unfold mJ5_append_3fe6f
  exact (Fr.m (zJ5_ensureCapacityInternal_d00df hM) (fun M3 _ hM3 => (Fr.c (fun r5 => (Fr.i (zJ5_append_3fe6f_b45 hM3) (Fr.c (fun r17 => (Fr.i (zJ5_append_3fe6f_b45 hM3) (Fr.bw (show 133 ≤ _ by first | omega | exact sbw_5) hM3 (fun M21 hM21 => (Fr.k (Fr.bw (show 133 ≤ _ by first | omega | exact sbw_5) hM21 (fun M25 hM25 => (Fr.k (Fr.ok hM25)))))))))))))))
theorem zJ5_append_c97b9 {x1 : Int32} {M : Mem} (hM : KS SW M0 M) : Fr SW M0 (mJ5_append_c97b9 x1 M) := by
  unfold mJ5_append_c97b9
  exact (Fr.b (fun x2_4 => (Fr.c (fun r3 => (Fr.b (fun x3_11 => (Fr.m (zJ5_ensureCapacityInternal_d00df hM) (fun M8 _ hM8 => (Fr.c (fun r10 => (Fr.i Fr.n (Fr.m (zJ6_getChars_ba4f3 (by first | omega | exact sbw_5) hM8) (fun M17 r16 hM17 => (Fr.bw (show 133 ≤ _ by first | omega | exact sbw_5) hM17 (fun M18 hM18 => (Fr.k (Fr.ok hM18)))))))))))))))))
theorem zJ5_append_cf1ce {k0 : Nat} {M : Mem} (hM : KS SW M0 M) : Fr SW M0 (mJ5_append_cf1ce k0 M) := by
  unfold mJ5_append_cf1ce
  exact (Fr.c (fun r2 => (Fr.m (zJ5_ensureCapacityInternal_d00df hM) (fun M6 _ hM6 => (Fr.m (zJ5_putStringAt_47b60 hM6) (fun M9 _ hM9 => (Fr.bw (show 133 ≤ _ by first | omega | exact sbw_5) hM9 (fun M10 hM10 => (Fr.k (Fr.ok hM10))))))))))
theorem zJ4_append_cf468 {x1 : Int32} {M : Mem} (hM : KS SW M0 M) : Fr SW M0 (mJ4_append_cf468 x1 M) := by
  unfold mJ4_append_cf468
  exact (Fr.m (zJ5_append_3fe6f hM) (fun M3 _ hM3 => (Fr.ok hM3)))
theorem zJ4_append_bf812 {x1 : Int32} {M : Mem} (hM : KS SW M0 M) : Fr SW M0 (mJ4_append_bf812 x1 M) := by
  unfold mJ4_append_bf812
  exact (Fr.m (zJ5_append_c97b9 hM) (fun M3 _ hM3 => (Fr.ok hM3)))
theorem zJ4_append_15ec4 {k0 : Nat} {M : Mem} (hM : KS SW M0 M) : Fr SW M0 (mJ4_append_15ec4 k0 M) := by
  unfold mJ4_append_15ec4
  exact (Fr.m (zJ5_append_cf1ce hM) (fun M3 _ hM3 => (Fr.ok hM3)))
theorem zJ5_setLength_d00df {x1 : Int32} {M : Mem} (hM : KS SW M0 M) : Fr SW M0 (mJ5_setLength_d00df x1 M) := by
  unfold mJ5_setLength_d00df
  exact (Fr.i (Fr.m (zJ5_ensureCapacityInternal_d00df hM) (fun M4 _ hM4 => (Fr.i (Fr.i (Fr.bw (show 133 ≤ _ by first | omega | exact sbw_5) hM4 (fun M7 hM7 => (Fr.k (Fr.ok hM7)))) (Fr.bw (show 133 ≤ _ by first | omega | exact sbw_5) hM4 (fun M10 hM10 => (Fr.bw (show 133 ≤ _ by first | omega | exact sbw_5) hM10 (fun M12 hM12 => (Fr.k (Fr.ok hM12))))))) (Fr.c (fun r16 => (Fr.i Fr.n Fr.n)))))) Fr.n)
theorem zJ4_setLength_d00df {x1 : Int32} {M : Mem} (hM : KS SW M0 M) : Fr SW M0 (mJ4_setLength_d00df x1 M) := by
  unfold mJ4_setLength_d00df
  exact (Fr.m (zJ5_setLength_d00df hM) (fun M3 _ hM3 => (Fr.ok hM3)))
theorem zX6_writeBend_b22 {k0 : Nat} {g : Int32} {x1 : Int32} {y1 : Int32} {M : Mem} (hM : KS SW M0 M) : Fr SW M0 (mX6_writeBend_b22 k0 g x1 y1 M) := by
  unfold mX6_writeBend_b22
  exact (Fr.k (Fr.m (zJ4_append_cf468 hM) (fun M8 _ hM8 => (Fr.i (Fr.ok hM8) (Fr.m (zJ4_append_cf468 hM8) (fun M12 _ hM12 => (Fr.ok hM12)))))))
theorem zX6_writeBend {k0 : Nat} {x1 : Int32} {M : Mem} (hM : KS SW M0 M) : Fr SW M0 (mX6_writeBend k0 x1 M) := by
  unfold mX6_writeBend
  exact (Fr.c (fun r2 => (Fr.i (zX6_writeBend_b22 hM) (zX6_writeBend_b22 hM))))
theorem zX6_write_b97 {k0 : Nat} {g : Int32} {M : Mem} (hM : KS SW M0 M) : Fr SW M0 (mX6_write_b97 k0 g M) := by
  unfold mX6_write_b97
  exact (Fr.k (Fr.c (fun r8 => (Fr.k (Fr.ok hM)))))
theorem zX6_write_b61 {k0 : Nat} {g : Int32} {M : Mem} (hM : KS SW M0 M) : Fr SW M0 (mX6_write_b61 k0 g M) := by
  unfold mX6_write_b61
  exact (Fr.i (zX6_write_b97 hM) (Fr.k (Fr.m (zJ4_append_15ec4 hM) (fun M14 _ hM14 => (Fr.c (fun r16 => (Fr.m (zJ4_append_bf812 hM14) (fun M20 _ hM20 => (zX6_write_b97 hM20)))))))))
theorem zX6_write_b38 {k0 : Nat} {g : Int32} {ih10 : Int32 → Int32 → Mem → Option (Mem × Int32)} {x1 : Int32} {M : Mem} (hih10 : ∀ (v0 : Int32) (v1 : Int32) (v2 : Mem), KS SW M0 v2 → Fr SW M0 (ih10 v0 v1 v2)) (hM : KS SW M0 M) : Fr SW M0 (mX6_write_b38 k0 g ih10 x1 M) := by
  unfold mX6_write_b38
  exact (Fr.k (Fr.k (Fr.m (zJ4_append_bf812 hM) (fun M27 _ hM27 => (Fr.b (fun x1_55 => (hih10 _ _ _ hM27)))))))
theorem zX6_write_b10 {k0 : Nat} {g : Int32} {ih10 : Int32 → Int32 → Mem → Option (Mem × Int32)} {x1 : Int32} {M : Mem} (hih10 : ∀ (v0 : Int32) (v1 : Int32) (v2 : Mem), KS SW M0 v2 → Fr SW M0 (ih10 v0 v1 v2)) (hM : KS SW M0 M) : Fr SW M0 (mX6_write_b10 k0 g ih10 x1 M) := by
  unfold mX6_write_b10
  exact (Fr.k (Fr.i (zX6_write_b61 hM) (Fr.i (zX6_write_b61 hM) (Fr.i (zX6_write_b38 hih10 hM) (Fr.k (Fr.m (zX6_writeBend hM) (fun M32 _ hM32 => (zX6_write_b38 hih10 hM32))))))))
theorem zX6_write_l10_n {k0 : Nat} : ∀ (n : Nat) (v0 : Int32) (v1 : Int32) (v2 : Mem), KS SW M0 v2 → Fr SW M0 (mX6_write_l10 k0 n v0 v1 v2) := by
  intro n
  induction n with
  | zero => intro v0 v1 v2 h; exact Fr.n
  | succ n IH => intro v0 v1 v2 h; exact zX6_write_b10 IH h
theorem zX6_write_l10 {k0 : Nat} {v0 : Int32} {v1 : Int32} {v2 : Mem} {n : Nat} (h : KS SW M0 v2) : Fr SW M0 (mX6_write_l10 k0 n v0 v1 v2) := zX6_write_l10_n n v0 v1 v2 h
theorem zX6_write {k0 : Nat} {M : Mem} (hM : KS SW M0 M) : Fr SW M0 (mX6_write k0 M) := by
  unfold mX6_write
  exact (Fr.m (zJ4_setLength_d00df hM) (fun M3 _ hM3 => (zX6_write_l10 hM3)))
end FFwrc
end
/-! part 60zz2.price -/
section
/-! what a step costs behind another: alike -/
section PC
variable {M N : Mem} {k b1 s1 b2 s2 n : Nat} {g1 g2 : Int32}
theorem price_R (hP : PR k M (row 136 N)) (hn : (rd N 136 0).toInt = (n : Int)) (hb1 : b1 < n) (hb2 : b2 < n) (hs1 : s1 < 2) (hs2 : s2 < 2) :
    R2 (mX1_priceBetween k (Int32.ofNat (2 * b1 + s1)) g1 (Int32.ofNat (2 * b2 + s2)) g2 M) (mX7_costBehind 135 (Int32.ofNat b1) (Int32.ofNat s1) g1 (Int32.ofNat b2) (Int32.ofNat s2) g2 N) (fun p q => p = q) := by
  have n8 : n ≤ 8 := by have := hP.n8; have e : (row 136 N 0).toInt = (n : Int) := hn; omega
  have hup : ∀ b' : Nat, b' < n → (rd N 136 (11 + b') = if (rd M k 2).toInt.toNat.testBit b' then 1 else 0) := fun b' hb' => hP.up b' (by show (b' : Int) < (rd N 136 0).toInt; omega)
  have n11 : ((11 : Int32)).toInt = 11 := rfl
  have ix : ∀ b : Nat, b < 8 → ((11 : Int32) + Int32.ofNat b).toNatClampNeg = 11 + b := fun b hb => by
    have tb : (Int32.ofNat b).toInt = (b : Int) := t_of (by omega)
    rw [i_clamp, i_add (by omega) (by omega)]; omega
  have t1 : (Int32.ofNat (2 * b1 + s1)).toInt = ((2 * b1 + s1 : Nat) : Int) := t_of (by omega)
  have oinj : (Int32.ofNat s1 = Int32.ofNat s2) ↔ s1 = s2 := ⟨fun h => o_inj (by omega) (by omega) h, fun h => by rw [h]⟩
  have last : ∀ x5 : Int32, R2 (mX1_priceBetween_b54 k M g1 g2 x5) (mX7_costBehind_b55 135 N g1 g2 x5) (fun p q => p = q) := by
    intro x5
    unfold mX1_priceBetween_b54 mX7_costBehind_b55
    refine R2.il (fun c => R2.ir (fun _ => R2.ok rfl) (fun z => absurd c z)) (fun c => R2.ir (fun z => absurd z c) (fun _ => R2.bl (fun v ev => R2.kr (fun _ => R2.br (fun w ew => R2.ok ?_)))))
    rw [ev, ew, hP.co.2.2]
    rfl
  have mid : ∀ x5 : Int32, R2 (mX1_priceBetween_b36 k M (Int32.ofNat (2 * b1 + s1)) g1 (Int32.ofNat (2 * b2 + s2)) g2 x5) (mX7_costBehind_b37 135 N (Int32.ofNat s1) g1 (Int32.ofNat s2) g2 x5) (fun p q => p = q) := by
    intro x5
    unfold mX1_priceBetween_b36 mX7_costBehind_b37
    rw [f_and1 (2 * b1 + s1) (by omega), f_and1 (2 * b2 + s2) (by omega), show (2 * b1 + s1) % 2 = s1 by omega, show (2 * b2 + s2) % 2 = s2 by omega]
    refine R2.il (fun c => R2.ir (fun _ => last x5) (fun z => absurd c z)) (fun c => R2.ir (fun z => absurd z c) (fun _ => R2.bl (fun v ev => R2.kr (fun _ => R2.br (fun w ew => ?_)))))
    have e : v = w := by rw [ev, ew, hP.co.2.1]; rfl
    rw [e]
    exact last w
  unfold mX1_priceBetween mX7_costBehind
  rw [f_shr1 (2 * b1 + s1) (by omega), f_shr1 (2 * b2 + s2) (by omega), show (2 * b1 + s1) / 2 = b1 by omega, show (2 * b2 + s2) / 2 = b2 by omega, ix b1 (by omega), ix b2 (by omega)]
  refine R2.kr (fun _ => R2.kr (fun _ => R2.il (fun c => ?_) (fun _ => R2.cl (pc_goesUp (b := b1) hP.ub (by omega)) (fun r p => R2.cl (pc_goesUp (b := b2) hP.ub (by omega)) (fun r' p' => ?_)))))
  · have c := congrArg Int32.toInt c
    rw [t1, show ((-1 : Int32)).toInt = -1 from rfl] at c
    exfalso; omega
  have e1 : rd N (135 + 1) (11 + b1) = r := by rw [p]; exact hup b1 hb1
  have e2 : rd N (135 + 1) (11 + b2) = r' := by rw [p']; exact hup b2 hb2
  rw [e1, e2]
  refine R2.il (fun c => R2.ir (fun _ => mid 0) (fun z => absurd c z)) (fun c => R2.ir (fun z => absurd z c) (fun _ => R2.bl (fun v ev => R2.kr (fun _ => R2.br (fun w ew => ?_)))))
  have e : v = w := by rw [ev, ew, hP.co.1]; rfl
  rw [e]
  exact mid w
end PC
end
/-! part 60zz3.cost -/
section
/-! what a step costs now: alike -/
section CO
variable {M N : Mem} {k b s a n : Nat}
/-- the steps of a row are steps -/
def SQ (n : Nat) (f : Nat → Int32) : Prop := ∀ j : Nat, (j : Int) < (f 53).toInt → (0 ≤ (f (54 + 4 * j)).toInt ∧ (f (54 + 4 * j)).toInt < (n : Int)) ∧ (0 ≤ (f (55 + 4 * j)).toInt ∧ (f (55 + 4 * j)).toInt ≤ 1)
theorem pc_lastCode (h8 : (rd M k 14).toInt ≤ 8) : Pc (mX1_lastCode k M) (fun r => ((rd M k 14).toInt ≤ 0 ∧ r = -1) ∨ (0 < (rd M k 14).toInt ∧ r = rd M (k + 5) ((rd M k 14).toInt.toNat - 1))) := by
  unfold mX1_lastCode
  have n1 : ((1 : Int32)).toInt = 1 := rfl
  refine Pc.i (fun c => Pc.ok (Or.inl ⟨?_, rfl⟩)) (fun c => Pc.k (fun _ => Pc.ok (Or.inr ⟨?_, ?_⟩)))
  · have c := i_le.mp c; exact c
  · have c := i_nle c; exact c
  · have c : 0 < (rd M k 14).toInt := i_nle c
    rw [i_clamp, i_sub (by omega) (by omega), n1, show ((rd M k 14).toInt - 1).toNat = (rd M k 14).toInt.toNat - 1 by omega]
theorem pc_lastGauge (h8 : (rd M k 14).toInt ≤ 8) : Pc (mX1_lastGauge k M) (fun r => ((rd M k 14).toInt ≤ 0 ∧ r = -1) ∨ (0 < (rd M k 14).toInt ∧ r = rd M (k + 6) ((rd M k 14).toInt.toNat - 1))) := by
  unfold mX1_lastGauge
  have n1 : ((1 : Int32)).toInt = 1 := rfl
  refine Pc.i (fun c => Pc.ok (Or.inl ⟨?_, rfl⟩)) (fun c => Pc.k (fun _ => Pc.ok (Or.inr ⟨?_, ?_⟩)))
  · have c := i_le.mp c; exact c
  · have c := i_nle c; exact c
  · have c : 0 < (rd M k 14).toInt := i_nle c
    rw [i_clamp, i_sub (by omega) (by omega), n1, show ((rd M k 14).toInt - 1).toNat = (rd M k 14).toInt.toNat - 1 by omega]
theorem pc_stepOf {j w : Nat} (hj : j < 8) (hw : w < 4) : Pc (mX7_stepOf 135 (Int32.ofNat j) (Int32.ofNat w) N) (fun r => r = rd N 136 (54 + 4 * j + w)) := by
  unfold mX7_stepOf
  have tj : (Int32.ofNat j).toInt = (j : Int) := t_of (by omega)
  have tw : (Int32.ofNat w).toInt = (w : Int) := t_of (by omega)
  have e := stepOf_at (x1 := Int32.ofNat j) (x2 := Int32.ofNat w) (by omega) (by omega)
  have ec : (((54 : Int32) + ((4 : Int32) * Int32.ofNat j)) + Int32.ofNat w).toNatClampNeg = 54 + 4 * j + w := by rw [i_clamp, e, tj, tw]; omega
  rw [ec]
  exact Pc.k (fun _ => Pc.ok rfl)
theorem costNow_R (hP : PR 5 M (row 136 N)) (hn : (rd N 136 0).toInt = (n : Int)) (hq : SQ n (row 136 N)) (hb : b < n) (hs : s < 2) (hm : rd M 5 13 = Int32.ofNat a) (ha : a < 2 ^ n) :
    R2 (mX6_costNow 0 (Int32.ofNat (2 * b + s)) M) (mX7_costNow 135 (Int32.ofNat b) (Int32.ofNat s) N) (fun p q => p.2 = q.2 ∧ KS (SPs 103) M p.1 ∧ KS SRl N q.1) := by
  have n8 : n ≤ 8 := by have := hP.n8; have e : (row 136 N 0).toInt = (n : Int) := hn; omega
  have ns : rd M 5 14 = rd N 136 53 := hP.ns
  have sb : 0 ≤ (rd N 136 53).toInt ∧ (rd N 136 53).toInt ≤ 8 := hP.sb
  have hmN : rd N 136 52 = Int32.ofNat a := by rw [← hm]; exact hP.ma.symm
  have n1 : ((1 : Int32)).toInt = 1 := rfl
  have pz : mX7_gaugeOf 135 (Int32.ofNat b) (Int32.ofNat s) (rd N (135 + 1) ((52 : Int32)).toNatClampNeg) N = mX7_gaugeOf 135 (Int32.ofNat b) (Int32.ofNat s) (Int32.ofNat a) N := by
    show mX7_gaugeOf 135 (Int32.ofNat b) (Int32.ofNat s) (rd N 136 52) N = _
    rw [hmN]
  unfold mX6_costNow mX7_costNow mX6_gaugeNow
  rw [pz, hm]
  refine R2.cl (pc_lastCode (by rw [ns]; exact sb.2)) (fun r2 p2 => R2.cl (pc_lastGauge (by rw [ns]; exact sb.2)) (fun r5 p5 => R2.kr (fun _ => R2.ir (fun c => ?_) (fun c => ?_))))
  · -- no step yet
    have c : (rd N 136 53).toInt = 0 := i_eq.mp c
    rw [ns] at p2
    have e2 : r2 = -1 := by
      rcases p2 with ⟨_, e⟩ | ⟨q, _⟩
      · exact e
      · exfalso; omega
    intro p q hp hq'
    cases hq'
    obtain ⟨M9, r8, x1, x2⟩ := cal_s hp
    obtain ⟨r11, x3, x4⟩ := cap_s x2
    cases x4
    obtain ⟨M3, u, x5, x6⟩ := cal_s x1
    obtain ⟨r, x7, x8⟩ := cap_s x6
    cases x8
    have e11 : r11 = 0 := by
      rw [e2] at x3
      have : mX1_priceBetween 5 (-1) r5 (Int32.ofNat (2 * b + s)) r8 M9 = some 0 := rfl
      rw [this] at x3
      cases x3; rfl
    refine ⟨e11, ?_, KS.rf⟩
    have hx : Fr (SPs 103) M (mX2_layStep 103 5 (Int32.ofNat a) (Int32.ofNat (2 * b + s)) M) := uX2_layStep KS.rf
    exact hx _ x5
  · have c : ¬ (rd N 136 53).toInt = 0 := i_ne c
    rw [ns] at p2 p5
    obtain ⟨j, hj⟩ : ∃ j : Nat, (rd N 136 53).toInt = (j : Int) + 1 := ⟨(rd N 136 53).toInt.toNat - 1, by omega⟩
    have j8 : j < 8 := by omega
    have ej : (rd N 136 53).toInt.toNat - 1 = j := by omega
    rw [ej] at p2 p5
    have e2 : r2 = rd M (5 + 5) j := by
      rcases p2 with ⟨q, _⟩ | ⟨_, e⟩
      · exfalso; omega
      · exact e
    have e5 : r5 = rd M (5 + 6) j := by
      rcases p5 with ⟨q, _⟩ | ⟨_, e⟩
      · exfalso; omega
      · exact e
    have st := hP.st j (by show (j : Int) < (rd N 136 53).toInt; omega)
    have sq := hq j (by show (j : Int) < (rd N 136 53).toInt; omega)
    obtain ⟨b1, hb1⟩ : ∃ b1 : Nat, (rd N 136 (54 + 4 * j)).toInt = (b1 : Int) := ⟨(rd N 136 (54 + 4 * j)).toInt.toNat, by have := sq.1.1; have e : (row 136 N (54 + 4 * j)).toInt = (rd N 136 (54 + 4 * j)).toInt := rfl; omega⟩
    obtain ⟨s1, hs1⟩ : ∃ s1 : Nat, (rd N 136 (55 + 4 * j)).toInt = (s1 : Int) := ⟨(rd N 136 (55 + 4 * j)).toInt.toNat, by have := sq.2.1; have e : (row 136 N (55 + 4 * j)).toInt = (rd N 136 (55 + 4 * j)).toInt := rfl; omega⟩
    have q1 : (row 136 N (54 + 4 * j)).toInt = (b1 : Int) := hb1
    have q2 : (row 136 N (55 + 4 * j)).toInt = (s1 : Int) := hs1
    rw [q1, q2] at sq
    have lb1 : b1 < n := by omega
    have ls1 : s1 < 2 := by omega
    have ec : r2 = Int32.ofNat (2 * b1 + s1) := by
      rw [e2, i_eq, t_of (by omega), st.1, q1, q2]; omega
    refine R2.kr (fun _ => R2.br (fun x3 ex3 => ?_))
    have ex3 : x3 = Int32.ofNat j := by
      rw [ex3, i_eq, t_of (by omega)]
      show (rd N 136 53 - 1).toInt = _
      rw [i_sub (by omega) (by omega)]; omega
    rw [ex3]
    refine R2.cr (pc_stepOf (j := j) (w := 0) j8 (by decide)) (fun r6 e6 => R2.cr (pc_stepOf (j := j) (w := 1) j8 (by decide)) (fun r9 e9 => R2.cr (pc_stepOf (j := j) (w := 2) j8 (by decide)) (fun r12 e12 => R2.kr (fun _ => ?_))))
    have e6 : r6 = Int32.ofNat b1 := by rw [e6, i_eq, t_of (by omega)]; exact hb1
    have e9 : r9 = Int32.ofNat s1 := by rw [e9, i_eq, t_of (by omega), show 54 + 4 * j + 1 = 55 + 4 * j by omega]; exact hs1
    have e12 : r12 = r5 := by rw [e12, e5, st.2.1, show 54 + 4 * j + 2 = 56 + 4 * j by omega]
    rw [e6, e9, e12, ec]
    refine R2.mm (gaugeOf_R (k := 103) (by decide) hP hn hb hs ha) (fun M9 r8 N17 r16 r => ?_)
    obtain ⟨eg, kM, kN⟩ := r
    have eg : r8 = r16 := eg
    have kM : KS (SPs 103) M M9 := kM
    have kN : KS SRl N N17 := kN
    subst eg
    have hP1 : PR 5 M9 (row 136 N17) := by rw [row_srl kN]; exact hP.sps (by decide) kM
    have hn1 : (rd N17 136 0).toInt = (n : Int) := by rw [kN 136 0 (by unfold SRl; omega)]; exact hn
    exact R2.cc (price_R hP1 hn1 lb1 hb ls1 hs) (fun x y e => R2.ok ⟨e, kM, kN⟩)
end CO
end
/-! part 60zz4.hist -/
section
/-! the history of edits -/
section HS
variable {M N N0 : Mem}
abbrev SHi (k j : Nat) : Prop := k = 139 ∨ (k = 135 ∧ j = 4)
theorem ks139 {N1 : Mem} {j : Nat} {v : Int32} (h : KS SHi N N1) : KS SHi N (wr N1 139 j v) := h.wr (Or.inl rfl)
/-- the row is laid behind the others -/
theorem hs_row {e : Nat} (he : e < 10) : ∀ (n i : Nat) (N : Mem), i ≤ 86 → rd N 135 4 = Int32.ofNat e → KS SHi N0 N → (∀ q, ¬ (86 * e ≤ q ∧ q < 86 * e + i) → rd N 139 q = rd N0 139 q) → (∀ p, p < i → rd N 139 (86 * e + p) = rd N0 136 p) → Pc (mX7_remember_l52 135 n (Int32.ofNat i) N) (fun q => KS SHi N0 q.1 ∧ rd q.1 135 4 = Int32.ofNat (e + 1) ∧ (∀ q', ¬ (86 * e ≤ q' ∧ q' < 86 * e + 86) → rd q.1 139 q' = rd N0 139 q') ∧ ∀ p, p < 86 → rd q.1 139 (86 * e + p) = rd N0 136 p) := by
  intro n
  induction n with
  | zero => intro i N _ _ _ _ _; exact Pc.n
  | succ n IH =>
    intro i N hi h4 hk ho hz
    show Pc (mX7_remember_b52 135 (mX7_remember_l52 135 n) (Int32.ofNat i) N) _
    unfold mX7_remember_b52
    have ti : (Int32.ofNat i).toInt = (i : Int) := t_of (by omega)
    have te : (Int32.ofNat e).toInt = (e : Int) := t_of (by omega)
    have ci := c_of (a := i) (by omega)
    rw [h4, ci]
    refine Pc.i (fun c => Pc.b (fun M3 e3 => Pc.ok ?_)) (fun c => Pc.k (fun _ => Pc.k (fun _ => Pc.b (fun M8 e8 => Pc.b (fun y ey => ?_)))))
    · have c := i_le.mp c
      rw [ti, show ((86 : Int32)).toInt = 86 from rfl] at c
      have ei : i = 86 := by omega
      subst ei
      refine ⟨?_, ?_, fun q hq => ?_, fun p hp => ?_⟩
      · show KS SHi N0 M3
        rw [e3]; exact hk.wr (Or.inr ⟨rfl, rfl⟩)
      · show rd M3 135 4 = _
        rw [e3, rd_we]; exact (Int32.ofNat_add e 1).symm
      · show rd M3 139 q = _
        rw [e3, rd_wk (by decide)]; exact ho q hq
      · show rd M3 139 _ = _
        rw [e3, rd_wk (by decide)]; exact hz p hp
    · have c := i_nle c
      rw [ti, show ((86 : Int32)).toInt = 86 from rfl] at c
      have em := i_mulc (a := (86 : Int32)) (b := Int32.ofNat e) (c := 86) rfl (by omega) (by omega)
      have ea := i_add (a := (86 : Int32) * Int32.ofNat e) (b := Int32.ofNat i) (by omega) (by omega)
      rw [i_clamp, show ((86 : Int32) * Int32.ofNat e + Int32.ofNat i).toInt.toNat = 86 * e + i by omega] at e8
      have e8 : M8 = wr N 139 (86 * e + i) (rd N 136 i) := e8
      have ey : y = Int32.ofNat (i + 1) := ey.trans (Int32.ofNat_add i 1).symm
      rw [ey]
      refine IH (i + 1) M8 (by omega) (by rw [e8, rd_wk (by decide)]; exact h4) (by rw [e8]; exact ks139 hk) (fun q hq => ?_) (fun p hp => ?_)
      · rw [e8, rd_wj (by omega)]; exact ho q (by omega)
      · rw [e8]
        by_cases q : p = i
        · subst q; rw [rd_we]; exact hk 136 p (by unfold SHi; omega)
        · rw [rd_wj (by omega)]; exact hz p (by omega)
/-- the rows move down -/
theorem hs_shift : ∀ (n i : Nat) (N : Mem), 86 ≤ i → i ≤ 860 → rd N 135 4 = 10 → KS SHi N0 N → (∀ q, q + 86 < i → rd N 139 q = rd N0 139 (q + 86)) → (∀ q, i ≤ q + 86 → rd N 139 q = rd N0 139 q) → Pc (mX7_remember_l12 135 n (Int32.ofNat i) N) (fun q => KS SHi N0 q.1 ∧ rd q.1 135 4 = 10 ∧ (∀ q', q' < 774 → rd q.1 139 q' = rd N0 139 (q' + 86)) ∧ ∀ p, p < 86 → rd q.1 139 (774 + p) = rd N0 136 p) := by
  intro n
  induction n with
  | zero => intro i N _ _ _ _ _ _; exact Pc.n
  | succ n IH =>
    intro i N hi hi2 h4 hk ho hz
    show Pc (mX7_remember_b12 135 (mX7_remember_l12 135 n) (Int32.ofNat i) N) _
    unfold mX7_remember_b12 mX7_remember_b50
    have ti : (Int32.ofNat i).toInt = (i : Int) := t_of (by omega)
    have ci := c_of (a := i) (by omega)
    have n86 : ((86 : Int32)).toInt = 86 := rfl
    have es := i_sub (a := Int32.ofNat i) (b := 86) (by omega) (by omega)
    rw [ci]
    refine Pc.i (fun c => Pc.b (fun M11 e11 => ?_)) (fun c => Pc.k (fun _ => Pc.k (fun _ => Pc.b (fun M16 e16 => Pc.b (fun y ey => ?_)))))
    · have c := i_le.mp c
      rw [ti, show ((860 : Int32)).toInt = 860 from rfl] at c
      have ei : i = 860 := by omega
      subst ei
      rw [h4] at e11
      have e4 : rd M11 135 4 = Int32.ofNat 9 := by rw [e11, rd_we]; rfl
      have k11 : KS SHi N0 M11 := by rw [e11]; exact hk.wr (Or.inr ⟨rfl, rfl⟩)
      have q11 : ∀ q, rd M11 139 q = rd N 139 q := fun q => by rw [e11, rd_wk (by decide)]
      refine Pc.mono (hs_row (N0 := M11) (e := 9) (by decide) 5000 0 M11 (by omega) e4 KS.rf (fun _ _ => rfl) (fun p hp => by omega)) (fun q r => ⟨k11.trans r.1, r.2.1, fun q' hq' => ?_, fun p hp => ?_⟩)
      · rw [r.2.2.1 q' (by omega), q11]; exact ho q' (by omega)
      · have := r.2.2.2 p hp
        rw [show 86 * 9 + p = 774 + p by omega] at this
        rw [this]; exact k11 136 p (by unfold SHi; omega)
    · have c := i_nle c
      rw [ti, show ((860 : Int32)).toInt = 860 from rfl] at c
      rw [i_clamp, show (Int32.ofNat i - 86).toInt.toNat = i - 86 by omega] at e16
      have e16 : M16 = wr N 139 (i - 86) (rd N 139 i) := e16
      have ey : y = Int32.ofNat (i + 1) := ey.trans (Int32.ofNat_add i 1).symm
      rw [ey]
      refine IH (i + 1) M16 (by omega) (by omega) (by rw [e16, rd_wk (by decide)]; exact h4) (by rw [e16]; exact ks139 hk) (fun q hq => ?_) (fun q hq => ?_)
      · rw [e16]
        by_cases e : q = i - 86
        · subst e
          rw [rd_we, hz i (by omega), show i - 86 + 86 = i by omega]
        · rw [rd_wj e]; exact ho q (by omega)
      · rw [e16, rd_wj (by omega)]; exact hz q (by omega)
theorem pc_remR {e : Nat} (h4 : rd N 135 4 = Int32.ofNat e) (he : e ≤ 10) : Pc (mX7_remember 135 N) (fun q => KS SHi N q.1 ∧ ((e < 10 ∧ rd q.1 135 4 = Int32.ofNat (e + 1) ∧ (∀ q', q' < 86 * e → rd q.1 139 q' = rd N 139 q') ∧ ∀ p, p < 86 → rd q.1 139 (86 * e + p) = rd N 136 p) ∨ (e = 10 ∧ rd q.1 135 4 = 10 ∧ (∀ q', q' < 774 → rd q.1 139 q' = rd N 139 (q' + 86)) ∧ ∀ p, p < 86 → rd q.1 139 (774 + p) = rd N 136 p))) := by
  unfold mX7_remember mX7_remember_b50
  refine Pc.i (fun c => ?_) (fun c => ?_)
  · have e10 : e = 10 := by
      rw [h4] at c
      exact o_inj (b := 10) (by omega) (by omega) c
    exact Pc.mono (hs_shift (N0 := N) 5000 86 N (by omega) (by omega) c KS.rf (fun q hq => by omega) (fun _ _ => rfl)) (fun q r => ⟨r.1, Or.inr ⟨e10, r.2⟩⟩)
  · have lt : e < 10 := by
      apply Decidable.byContradiction
      intro z
      apply c
      rw [h4, show e = 10 by omega]; rfl
    exact Pc.mono (hs_row (N0 := N) lt 5000 0 N (by omega) h4 KS.rf (fun _ _ => rfl) (fun p hp => by omega)) (fun q r => ⟨r.1, Or.inl ⟨lt, r.2.1, fun q' hq' => r.2.2.1 q' (by omega), r.2.2.2⟩⟩)
end HS
end
/-! part 60zz5.hist2 -/
section
/-! remembering, by both -/
theorem f_mod10 : ∀ x, x < 21 → (Int32.ofNat x - Int32.ofNat x / (10 : Int32) * (10 : Int32)) = Int32.ofNat (x % 10) := by decide +kernel
section HS2
variable {M N N0 : Mem}
/-- the parts remembered are those of the rows remembered -/
def HRel (M N : Mem) : Prop := ∃ e o : Nat, rd N 135 4 = Int32.ofNat e ∧ rd M 21 2 = Int32.ofNat e ∧ rd M 21 1 = Int32.ofNat o ∧ e ≤ 10 ∧ o < 10 ∧ ∀ i, i < e → PR (23 + 8 * ((o + i) % 10)) M (fun j => rd N 139 (86 * i + j))
abbrev SHc (c _ : Nat) : Prop := c = 21 ∨ (23 ≤ c ∧ c < 103)
theorem pc_b32 {e o : Nat} (he : e < 10) (ho : o < 10) (h2 : rd M 21 2 = Int32.ofNat e) (h1 : rd M 21 1 = Int32.ofNat o) {f : Nat → Int32} (hP : PR 5 M f) : Pc (mX0_remember_b32 21 5 M) (fun q => rd q.1 21 2 = Int32.ofNat (e + 1) ∧ rd q.1 21 1 = Int32.ofNat o ∧ PR (23 + 8 * ((o + e) % 10)) q.1 f ∧ KS SHc M q.1 ∧ (∀ i g, i < 10 → i ≠ (o + e) % 10 → PR (23 + 8 * i) M g → PR (23 + 8 * i) q.1 g)) := by
  unfold mX0_remember_b32
  have ea : Int32.ofNat o + Int32.ofNat e = Int32.ofNat (o + e) := (Int32.ofNat_add o e).symm
  have hm : (o + e) % 10 < 10 := Nat.mod_lt _ (by decide)
  rw [h1, h2, ea, f_mod10 (o + e) (by omega), c_of (a := (o + e) % 10) (by omega)]
  refine Pc.k (fun _ => Pc.m (pc_copyFrom (k := 21 + 1 + 1 + 8 * ((o + e) % 10)) (k' := 5) (by omega)) (fun M5 _ p => Pc.b (fun M6 e6 => Pc.ok ?_)))
  obtain ⟨q0, q1, q2, q3, q4⟩ := p
  have ek : 21 + 1 + 1 + 8 * ((o + e) % 10) = 23 + 8 * ((o + e) % 10) := by omega
  have kp : ∀ c j, ¬ (23 + 8 * ((o + e) % 10) ≤ c ∧ c < 23 + 8 * ((o + e) % 10) + 8) → rd M5 c j = rd M c j := fun c j z => q4 c j (by show ¬ (21 + 1 + 1 + 8 * ((o + e) % 10) ≤ c ∧ c < 21 + 1 + 1 + 8 * ((o + e) % 10) + 8); omega)
  have c2 : rd M5 21 2 = Int32.ofNat e := by rw [kp 21 2 (by omega)]; exact h2
  have hn : PR (23 + 8 * ((o + e) % 10)) M5 f := by
    have := hP.copy (k := 21 + 1 + 1 + 8 * ((o + e) % 10)) q0 q1 q2 q3
    rw [ek] at this
    exact this
  rw [c2] at e6
  refine ⟨?_, ?_, ?_, ?_, fun i g hi hne hg => ?_⟩
  · show rd M6 21 2 = _
    rw [e6, rd_we]; exact (Int32.ofNat_add e 1).symm
  · show rd M6 21 1 = _
    rw [e6, rd_wj (by decide), kp 21 1 (by omega)]; exact h1
  · show PR _ M6 f
    exact hn.mem (fun c j a1 a2 => by rw [e6]; exact rd_wk (by omega))
  · show KS SHc M M6
    rw [e6]
    refine KS.wr (fun c j z => kp c j ?_) (Or.inl rfl)
    intro y
    exact z (Or.inr ⟨by omega, by omega⟩)
  · show PR _ M6 g
    refine hg.mem (fun c j a1 a2 => ?_)
    rw [e6, rd_wk (by omega)]
    exact kp c j (by omega)
theorem rem_R (hH : HRel M N) (hP : PR 5 M (row 136 N)) : R2 (mX0_remember 21 5 M) (mX7_remember 135 N) (fun p q => HRel p.1 q.1 ∧ KS SHc M p.1 ∧ KS SHi N q.1) := by
  obtain ⟨e, o, h4, h2, h1, he, ho, hr⟩ := hH
  intro p q hp hq
  obtain ⟨kN, hq⟩ := pc_remR h4 he _ hq
  unfold mX0_remember at hp
  rcases hq with ⟨lt, n4, nr, nw⟩ | ⟨e10, n4, nr, nw⟩
  · have c : ¬ rd M 21 2 = 10 := fun z => by
      rw [h2] at z
      have := o_inj (b := 10) (by omega) (by omega) z
      omega
    obtain ⟨a1, a2, a3, a4, a5⟩ := pc_b32 lt ho h2 h1 hP _ (ite_f c hp)
    refine ⟨⟨e + 1, o, n4, a1, a2, by omega, ho, fun i hi => ?_⟩, a4, kN⟩
    by_cases q' : i = e
    · subst q'
      exact a3.cong (fun p hp => nw p hp)
    · have hne : (o + i) % 10 ≠ (o + e) % 10 := by omega
      have := a5 ((o + i) % 10) _ (Nat.mod_lt _ (by decide)) hne (hr i (by omega))
      exact this.cong (fun p hp => nr _ (by omega))
  · subst e10
    have c : rd M 21 2 = 10 := h2
    have hp := ite_t c hp
    obtain ⟨M8, e8, hp⟩ := bnd_s hp
    obtain ⟨M10, e10, hp⟩ := bnd_s hp
    have eo : Int32.ofNat o + (1 : Int32) = Int32.ofNat (o + 1) := (Int32.ofNat_add o 1).symm
    rw [h1, eo, f_mod10 (o + 1) (by omega)] at e8
    have r8 : rd M8 21 2 = 10 := by rw [e8, rd_wj (by decide)]; exact c
    rw [r8] at e10
    have s2 : rd M10 21 2 = Int32.ofNat 9 := by rw [e10, rd_we]; rfl
    have s1 : rd M10 21 1 = Int32.ofNat ((o + 1) % 10) := by rw [e10, rd_wj (by decide), e8, rd_we]
    have k10 : KS SHc M M10 := by rw [e10, e8]; exact (KS.rf.wr (Or.inl rfl)).wr (Or.inl rfl)
    have m10 : ∀ c j, c ≠ 21 → rd M10 c j = rd M c j := fun c j hc => by rw [e10, rd_wk hc, e8, rd_wk hc]
    have hP10 : PR 5 M10 (row 136 N) := hP.mem (fun c j a1 a2 => m10 c j (by omega))
    obtain ⟨a1, a2, a3, a4, a5⟩ := pc_b32 (e := 9) (by decide) (Nat.mod_lt _ (by decide)) s2 s1 hP10 _ hp
    refine ⟨⟨10, (o + 1) % 10, n4, a1, a2, by omega, Nat.mod_lt _ (by decide), fun i hi => ?_⟩, k10.trans a4, kN⟩
    by_cases q' : i = 9
    · subst q'
      refine a3.cong (fun p hp => ?_)
      have := nw p hp
      rw [show 86 * 9 + p = 774 + p by omega]
      exact this
    · have hne : ((o + 1) % 10 + i) % 10 ≠ ((o + 1) % 10 + 9) % 10 := by omega
      have h0 := hr (i + 1) (by omega)
      have ei : (o + (i + 1)) % 10 = ((o + 1) % 10 + i) % 10 := by omega
      rw [ei] at h0
      have h0' : PR (23 + 8 * (((o + 1) % 10 + i) % 10)) M10 (fun j => rd N 139 (86 * (i + 1) + j)) := h0.mem (fun c j b1 b2 => m10 c j (by omega))
      have := a5 (((o + 1) % 10 + i) % 10) _ (Nat.mod_lt _ (by decide)) hne h0'
      refine this.cong (fun p hp => ?_)
      have := nr (86 * i + p) (by omega)
      rw [show 86 * i + p + 86 = 86 * (i + 1) + p by omega] at this
      exact this
end HS2
end
/-! part 60zz6.undo -/
section
/-! undo, by both -/
section UD
variable {M N N0 : Mem}
abbrev SUc (c _ : Nat) : Prop := c = 21 ∨ (5 ≤ c ∧ c < 13)
abbrev SUr (k j : Nat) : Prop := k = 136 ∨ (k = 135 ∧ (j = 4 ∨ j = 5))
theorem und_l {e : Nat} (he : e < 10) : ∀ (n i : Nat) (N : Mem), i ≤ 86 → rd N 135 4 = Int32.ofNat e → KS SUr N0 N → (∀ p, p < i → rd N 136 p = rd N0 139 (86 * e + p)) → Pc (mX7_undo_l26 135 n (Int32.ofNat i) N) (fun q => KS SUr N0 q.1 ∧ rd q.1 135 4 = Int32.ofNat e ∧ (∀ p, p < 86 → rd q.1 136 p = rd N0 139 (86 * e + p)) ∧ q.2 = Int32.ofNat e ∧ rd q.1 135 5 = rd N 135 5) := by
  intro n
  induction n with
  | zero => intro i N _ _ _ _; exact Pc.n
  | succ n IH =>
    intro i N hi h4 hk hz
    show Pc (mX7_undo_b26 135 (mX7_undo_l26 135 n) (Int32.ofNat i) N) _
    unfold mX7_undo_b26
    have ti : (Int32.ofNat i).toInt = (i : Int) := t_of (by omega)
    have te : (Int32.ofNat e).toInt = (e : Int) := t_of (by omega)
    have ci := c_of (a := i) (by omega)
    rw [h4, ci]
    refine Pc.i (fun c => Pc.ok ⟨hk, h4, fun p hp => ?_, rfl, rfl⟩) (fun c => Pc.k (fun _ => Pc.k (fun _ => Pc.b (fun M8 e8 => Pc.b (fun y ey => ?_)))))
    · have c := i_le.mp c
      rw [ti, show ((86 : Int32)).toInt = 86 from rfl] at c
      exact hz p (by omega)
    · have c := i_nle c
      rw [ti, show ((86 : Int32)).toInt = 86 from rfl] at c
      have em := i_mulc (a := (86 : Int32)) (b := Int32.ofNat e) (c := 86) rfl (by omega) (by omega)
      have ea := i_add (a := (86 : Int32) * Int32.ofNat e) (b := Int32.ofNat i) (by omega) (by omega)
      rw [i_clamp, show ((86 : Int32) * Int32.ofNat e + Int32.ofNat i).toInt.toNat = 86 * e + i by omega] at e8
      have e8 : M8 = wr N 136 i (rd N 139 (86 * e + i)) := e8
      have ey : y = Int32.ofNat (i + 1) := ey.trans (Int32.ofNat_add i 1).symm
      rw [ey]
      refine Pc.mono (IH (i + 1) M8 (by omega) (by rw [e8, rd_wk (by decide)]; exact h4) (by rw [e8]; exact hk.wr (Or.inl rfl)) (fun p hp => ?_)) (fun q r => ⟨r.1, r.2.1, r.2.2.1, r.2.2.2.1, ?_⟩)
      · rw [e8]
        by_cases q : p = i
        · subst q; rw [rd_we]; exact hk 139 _ (by unfold SUr; omega)
        · rw [rd_wj q]; exact hz p (by omega)
      · rw [r.2.2.2.2, e8, rd_wk (by decide)]
theorem undo_R (hH : HRel M N) (hP : PR 5 M (row 136 N)) : R2 (mX6_undo 0 M) (mX7_undo 135 N) (fun p q => p.2 = q.2 ∧ rd q.1 135 5 = 0 ∧ HRel p.1 q.1 ∧ PR 5 p.1 (row 136 q.1) ∧ KS SUc M p.1 ∧ KS SUr N q.1) := by
  obtain ⟨e, o, h4, h2, h1, he, ho, hr⟩ := hH
  unfold mX6_undo mX0_takeBack mX7_undo
  simp only [cal_ite, cal_cap, cal_cal, cal_chk, cal_some, cal_bnd]
  refine R2.br (fun N1 e1 => ?_)
  have k1 : KS SUr N N1 := by rw [e1]; exact KS.rf.wr (Or.inr ⟨rfl, Or.inr rfl⟩)
  have n4 : rd N1 135 4 = Int32.ofNat e := by rw [e1, rd_wj (by decide)]; exact h4
  have n5 : rd N1 135 5 = 0 := by rw [e1, rd_we]
  have q139 : ∀ j, rd N1 139 j = rd N 139 j := fun j => by rw [e1, rd_wk (by decide)]
  rw [n4, h2]
  refine R2.il (fun c => R2.ir (fun _ => ?_) (fun z => absurd c z)) (fun c => R2.ir (fun z => absurd z c) (fun _ => ?_))
  · refine R2.il (fun _ => R2.ok ⟨rfl, n5, ⟨e, o, n4, h2, h1, he, ho, fun i hi => ?_⟩, ?_, KS.rf, k1⟩) (fun z => absurd trivial z)
    · exact (hr i hi).cong (fun p _ => q139 _)
    · exact hP.cong (fun p _ => by show rd N1 136 p = rd N 136 p; rw [e1, rd_wk (by decide)])
  · have e0 : 0 < e := by
      apply Decidable.byContradiction
      intro z
      apply c
      rw [show e = 0 by omega]; rfl
    have em : Int32.ofNat e - (1 : Int32) = Int32.ofNat (e - 1) := by
      rw [i_eq, i_sub (by rw [t_of (by omega), show ((1 : Int32)).toInt = 1 from rfl]; omega) (by rw [t_of (by omega), show ((1 : Int32)).toInt = 1 from rfl]; omega), t_of (by omega), t_of (by omega), show ((1 : Int32)).toInt = 1 from rfl]; omega
    rw [em]
    refine R2.bl (fun M2 e2 => ?_)
    have c2 : rd M2 21 2 = Int32.ofNat (e - 1) := by rw [e2, rd_we]
    have c1 : rd M2 21 1 = Int32.ofNat o := by rw [e2, rd_wj (by decide)]; exact h1
    have ea : Int32.ofNat o + Int32.ofNat (e - 1) = Int32.ofNat (o + (e - 1)) := (Int32.ofNat_add o (e - 1)).symm
    rw [c1, c2, ea, f_mod10 (o + (e - 1)) (by omega), c_of (a := (o + (e - 1)) % 10) (by omega)]
    have hm : (o + (e - 1)) % 10 < 10 := Nat.mod_lt _ (by decide)
    refine R2.kl (fun _ => R2.ml (pc_copyFrom (k := 5) (k' := 21 + 1 + 1 + 8 * ((o + (e - 1)) % 10)) (by omega)) (fun M7 _ p => ?_))
    obtain ⟨q0, q1, q2, q3, q4⟩ := p
    have ek : 21 + 1 + 1 + 8 * ((o + (e - 1)) % 10) = 23 + 8 * ((o + (e - 1)) % 10) := by omega
    have m2 : ∀ c j, c ≠ 21 → rd M2 c j = rd M c j := fun c j hc => by rw [e2]; exact rd_wk hc
    have m7 : ∀ c j, ¬ (5 ≤ c ∧ c < 13) → rd M7 c j = rd M2 c j := fun c j hc => q4 c j (by show ¬ (5 ≤ c ∧ c < 5 + 8); omega)
    have hrow : PR (21 + 1 + 1 + 8 * ((o + (e - 1)) % 10)) M2 (fun j => rd N 139 (86 * (e - 1) + j)) := by
      rw [ek]
      exact (hr (e - 1) (by omega)).mem (fun c j a1 a2 => m2 c j (by omega))
    have hP7 : PR 5 M7 (fun j => rd N 139 (86 * (e - 1) + j)) := hrow.copy q0 q1 q2 q3
    refine R2.il (fun z => absurd z (by simp)) (fun _ => R2.br (fun N4 e4 => ?_))
    have k4 : KS SUr N N4 := k1.trans (by rw [e4]; exact KS.rf.wr (Or.inr ⟨rfl, Or.inl rfl⟩))
    have d4 : rd N4 135 4 = Int32.ofNat (e - 1) := by rw [e4, rd_we]
    have d5 : rd N4 135 5 = 0 := by rw [e4, rd_wj (by decide)]; exact n5
    intro p q hp hq
    cases hp
    obtain ⟨kN, r4, rw', r2, r5⟩ := und_l (N0 := N) (e := e - 1) (by omega) 5000 0 N4 (by omega) d4 k4 (fun p hp => by omega) _ hq
    have kN : KS SUr N q.1 := kN
    refine ⟨?_, ?_, ⟨e - 1, o, r4, ?_, ?_, by omega, ho, fun i hi => ?_⟩, ?_, ?_, kN⟩
    · show rd M7 21 2 = q.2
      rw [r2, m7 21 2 (by omega), c2]
    · rw [r5]; exact d5
    · show rd M7 21 2 = _
      rw [m7 21 2 (by omega), c2]
    · show rd M7 21 1 = _
      rw [m7 21 1 (by omega), c1]
    · refine PR.cong ((hr i (by omega)).mem (fun c j a1 a2 => ?_)) (fun p _ => kN 139 _ (by unfold SUr; omega))
      show rd M7 c j = _
      rw [m7 c j (by omega), m2 c j (by omega)]
    · exact hP7.cong (fun p hp => rw' p hp)
    · intro c j z
      show rd M7 c j = _
      have z1 : c ≠ 21 := fun y => z (Or.inl y)
      have z2 : ¬ (5 ≤ c ∧ c < 13) := fun y => z (Or.inr y)
      rw [m7 c j z2, m2 c j z1]
end UD
end
/-! part 60zz7.req -/
section
/-! what the parameters must be: both tell it alike -/
section RQ
variable {M N : Mem} {x y z : Int32}
theorem pc_good : Pc (mX7_good 135 x N) (fun q => (x = 0 ∧ q = (wr N 135 5 1, x)) ∨ (¬ x = 0 ∧ q = (wr N 135 5 0, x))) := by
  unfold mX7_good
  exact Pc.i (fun c => Pc.b (fun M2 e => Pc.k (fun _ => Pc.ok (Or.inl ⟨c, by rw [e]⟩)))) (fun c => Pc.b (fun M2 e => Pc.k (fun _ => Pc.ok (Or.inr ⟨c, by rw [e]⟩))))
theorem pc_good2 : Pc (mX7_good_ 135 x y N) (fun q => (x = 0 ∧ q = (wr N 135 5 1, 0)) ∨ (¬ x = 0 ∧ y = 0 ∧ q = (wr N 135 5 2, 0)) ∨ (¬ x = 0 ∧ ¬ y = 0 ∧ q = (wr N 135 5 0, 1))) := by
  unfold mX7_good_ mX7_good__b18
  refine Pc.i (fun c => Pc.b (fun M3 e => Pc.i (fun d => ?_) (fun _ => Pc.ok (Or.inl ⟨c, by rw [e]⟩)))) (fun c => Pc.i (fun c2 => Pc.b (fun M3 e => Pc.i (fun d => ?_) (fun _ => Pc.ok (Or.inr (Or.inl ⟨c, c2, by rw [e]⟩))))) (fun c2 => Pc.b (fun M3 e => Pc.i (fun d => Pc.ok (Or.inr (Or.inr ⟨c, c2, by rw [e]⟩))) (fun d => ?_))))
  · rw [e, rd_we] at d; exact absurd d (by decide)
  · rw [e, rd_we] at d; exact absurd d (by decide)
  · rw [e, rd_we] at d; exact absurd rfl d
theorem pc_good3 : Pc (mX7_good__ 135 x y z N) (fun q => (x = 0 ∧ q = (wr N 135 5 1, 0)) ∨ (¬ x = 0 ∧ y = 0 ∧ q = (wr N 135 5 2, 0)) ∨ (¬ x = 0 ∧ ¬ y = 0 ∧ z = 0 ∧ q = (wr N 135 5 3, 0)) ∨ (¬ x = 0 ∧ ¬ y = 0 ∧ ¬ z = 0 ∧ q = (wr N 135 5 0, 1))) := by
  unfold mX7_good__ mX7_good___b26
  refine Pc.i (fun c => Pc.b (fun M3 e => Pc.i (fun d => ?_) (fun _ => Pc.ok (Or.inl ⟨c, by rw [e]⟩)))) (fun c => Pc.i (fun c2 => Pc.b (fun M3 e => Pc.i (fun d => ?_) (fun _ => Pc.ok (Or.inr (Or.inl ⟨c, c2, by rw [e]⟩))))) (fun c2 => Pc.i (fun c3 => Pc.b (fun M3 e => Pc.i (fun d => ?_) (fun _ => Pc.ok (Or.inr (Or.inr (Or.inl ⟨c, c2, c3, by rw [e]⟩)))))) (fun c3 => Pc.b (fun M3 e => Pc.i (fun d => Pc.ok (Or.inr (Or.inr (Or.inr ⟨c, c2, c3, by rw [e]⟩)))) (fun d => ?_)))))
  · rw [e, rd_we] at d; exact absurd d (by decide)
  · rw [e, rd_we] at d; exact absurd d (by decide)
  · rw [e, rd_we] at d; exact absurd d (by decide)
  · rw [e, rd_we] at d; exact absurd rfl d
theorem pc_isBend {n : Nat} (hn : (rd N 136 0).toInt = (n : Int)) (h8 : n ≤ 8) : Pc (mX7_isBend 135 x N) (fun r => (r = 1 ∧ 0 ≤ x.toInt ∧ x.toInt < (n : Int)) ∨ (r = 0 ∧ ¬ (0 ≤ x.toInt ∧ x.toInt < (n : Int)))) := by
  unfold mX7_isBend
  have n1 : ((1 : Int32)).toInt = 1 := rfl
  have e1 : (rd N (135 + 1) ((0 : Int32)).toNatClampNeg - 1).toInt = (n : Int) - 1 := by
    show (rd N 136 0 - 1).toInt = _
    rw [i_sub (by omega) (by omega)]; omega
  refine Pc.k (fun _ => Pc.c (pc_btw (Int32.toInt_toInt64 _) (b := 0) (by decide) (Int32.toInt_toInt64 _)) (fun r p => Pc.k (fun _ => Pc.ok ?_)))
  rw [e1] at p
  rcases p with ⟨e, p⟩ | ⟨e, p⟩
  · exact Or.inl ⟨e, by omega⟩
  · exact Or.inr ⟨e, by omega⟩
theorem pc_isLeg {n : Nat} (hn : (rd N 136 1).toInt = (n : Int)) (h8 : n ≤ 9) : Pc (mX7_isLeg 135 x N) (fun r => (r = 1 ∧ 0 ≤ x.toInt ∧ x.toInt < (n : Int)) ∨ (r = 0 ∧ ¬ (0 ≤ x.toInt ∧ x.toInt < (n : Int)))) := by
  unfold mX7_isLeg
  have n1 : ((1 : Int32)).toInt = 1 := rfl
  have e1 : (rd N (135 + 1) ((1 : Int32)).toNatClampNeg - 1).toInt = (n : Int) - 1 := by
    show (rd N 136 1 - 1).toInt = _
    rw [i_sub (by omega) (by omega)]; omega
  refine Pc.k (fun _ => Pc.c (pc_btw (Int32.toInt_toInt64 _) (b := 0) (by decide) (Int32.toInt_toInt64 _)) (fun r p => Pc.k (fun _ => Pc.ok ?_)))
  rw [e1] at p
  rcases p with ⟨e, p⟩ | ⟨e, p⟩
  · exact Or.inl ⟨e, by omega⟩
  · exact Or.inr ⟨e, by omega⟩
theorem pc_isSide : Pc (mX7_isSide x N) (fun r => (r = 1 ∧ 0 ≤ x.toInt ∧ x.toInt ≤ 1) ∨ (r = 0 ∧ ¬ (0 ≤ x.toInt ∧ x.toInt ≤ 1))) := by
  unfold mX7_isSide
  exact Pc.c (pc_btw (Int32.toInt_toInt64 _) (b := 0) (by decide) (c := 1) (by decide)) (fun r p => Pc.k (fun _ => Pc.ok p))
theorem pc_reqBend {n : Nat} {f : Nat → Int32} (hP : PR 5 M f) (hn : (f 0).toInt = (n : Int)) : Pc (mX6_requireBend 0 x M) (fun q => (q = (M, Sum.inl ()) ∧ 0 ≤ x.toInt ∧ x.toInt < (n : Int)) ∨ (q = (M, Sum.inr 1) ∧ ¬ (0 ≤ x.toInt ∧ x.toInt < (n : Int)))) := by
  unfold mX6_requireBend mX6_requireBend_b21
  have n8 := hP.n8
  have lb := hP.lb
  have nn := hP.nn
  have n1 : ((1 : Int32)).toInt = 1 := rfl
  refine Pc.i (fun c => Pc.ok (Or.inr ⟨rfl, ?_⟩)) (fun c => Pc.c pc_bc (fun r3 p3 => ?_))
  · have c := i_lt.mp c
    rw [show ((0 : Int32)).toInt = 0 from rfl] at c
    omega
  have c : 0 ≤ x.toInt := i_nlt c
  have e3 : r3.toInt = (n : Int) := by
    rw [hP.lc] at p3
    rcases p3 with ⟨q, e⟩ | ⟨q, e⟩
    · rw [if_pos (by omega)] at nn
      rw [e, ← hn, nn]; rfl
    · rw [if_neg (by omega)] at nn
      rw [e, i_sub (by omega) (by omega), n1]; omega
  refine Pc.i (fun c2 => Pc.ok (Or.inr ⟨rfl, ?_⟩)) (fun c2 => Pc.i (fun c3 => Pc.ok (Or.inl ⟨rfl, c, ?_⟩)) (fun c3 => ?_))
  · have c2 := i_le.mp c2; omega
  · have c2 := i_nle c2; omega
  · have c2 := i_nle c2
    have c3 := i_nlt c3
    rw [show ((8 : Int32)).toInt = 8 from rfl] at c3
    exfalso; omega
theorem pc_reqLeg {n : Nat} {f : Nat → Int32} (hP : PR 5 M f) (hn : (f 1).toInt = (n : Int)) : Pc (mX6_requireLeg 0 x M) (fun q => (q = (M, Sum.inl ()) ∧ 0 ≤ x.toInt ∧ x.toInt < (n : Int)) ∨ (q = (M, Sum.inr 1) ∧ ¬ (0 ≤ x.toInt ∧ x.toInt < (n : Int)))) := by
  unfold mX6_requireLeg mX6_requireLeg_b21
  have lb := hP.lb
  rw [hP.lc]
  refine Pc.i (fun c => Pc.ok (Or.inr ⟨rfl, ?_⟩)) (fun c => Pc.i (fun c2 => Pc.ok (Or.inr ⟨rfl, ?_⟩)) (fun c2 => Pc.i (fun c3 => Pc.ok (Or.inl ⟨rfl, i_nlt c, ?_⟩)) (fun c3 => ?_)))
  · have c := i_lt.mp c
    rw [show ((0 : Int32)).toInt = 0 from rfl] at c
    omega
  · have c2 := i_le.mp c2; omega
  · have c2 := i_nle c2; omega
  · have c2 := i_nle c2
    have c3 := i_nlt c3
    rw [show ((9 : Int32)).toInt = 9 from rfl] at c3
    exfalso; omega
theorem pc_reqChoice {n : Int} (hy : y.toInt = n) : Pc (mX6_requireChoice x y M) (fun q => (q = (M, Sum.inl ()) ∧ 0 ≤ x.toInt ∧ x.toInt ≤ n) ∨ (q = (M, Sum.inr 0) ∧ ¬ (0 ≤ x.toInt ∧ x.toInt ≤ n))) := by
  unfold mX6_requireChoice mX6_requireChoice_b9
  refine Pc.i (fun c => Pc.ok (Or.inr ⟨rfl, ?_⟩)) (fun c => Pc.i (fun c2 => Pc.ok (Or.inl ⟨rfl, i_nlt c, ?_⟩)) (fun c2 => Pc.ok (Or.inr ⟨rfl, ?_⟩)))
  · have c := i_lt.mp c
    rw [show ((0 : Int32)).toInt = 0 from rfl] at c
    omega
  · have c2 := i_le.mp c2; omega
  · have c2 := i_nle c2; omega
theorem pc_reqFlat : Pc (mX6_requireFlat 0 M) (fun q => (q = (M, Sum.inl ()) ∧ (rd M 5 14).toInt ≤ 0) ∨ (q = (M, Sum.inr 2) ∧ 0 < (rd M 5 14).toInt)) := by
  unfold mX6_requireFlat
  refine Pc.i (fun c => Pc.ok (Or.inl ⟨rfl, ?_⟩)) (fun c => Pc.ok (Or.inr ⟨rfl, ?_⟩))
  · have c := i_le.mp c; exact c
  · have c := i_nle c; exact c
end RQ
end
/-! part 60zz8.edit -/
section
/-! edits: a part's field, a row's slot -/
section ED
variable {M N : Mem} {k : Nat} {f g : Nat → Int32}
/-- a leg's length -/
theorem PR.setLeg {j : Nat} {v : Int32} (h : PR k M f) (hj : (j : Int) < (f 1).toInt) : PR k (wr M (k + 1) j v) (upf f (2 + j) v) := by
  have lb := h.lb
  have e2 : ∀ c i, c ≠ k + 1 → rd (wr M (k + 1) j v) c i = rd M c i := fun c i hc => rd_wk hc
  have g' : ∀ i, i < 2 ∨ 11 ≤ i → upf f (2 + j) v i = f i := fun i hi => upf_n (by omega)
  have e : ∀ i, rd (wr M (k + 1) j v) k i = rd M k i := fun i => e2 k i (by omega)
  refine ⟨?_, ?_, ?_, fun i hi => ?_, ?_, fun b hb => ?_, ?_, ?_, ?_, fun i hi => ?_, ?_, ?_, ?_, fun i hi => ?_, fun i hi => ?_, ?_, ?_, ?_, fun i hi => ?_⟩
  · rw [e, g' 1 (by omega)]; exact h.lc
  · rw [g' 1 (by omega)]; exact h.lb
  · rw [g' 1 (by omega), g' 0 (by omega)]; exact h.nn
  · rw [g' 1 (by omega)] at hi
    by_cases q : i = j
    · rw [q, rd_we, upf_e]
    · rw [rd_wj q, upf_n (by omega)]; exact h.leg i hi
  · rw [e]; exact h.ub
  · rw [g' 0 (by omega)] at hb
    rw [e, g' _ (by omega)]; exact h.up b hb
  · rw [e, g' 0 (by omega)]; exact h.uz
  · rw [e, e, e, g' 36 (by omega), g' 37 (by omega), g' 38 (by omega)]; exact h.sh
  · rw [g' 48 (by omega)]; exact h.fl
  · rw [e2 _ _ (by omega), g' _ (by omega)]; exact h.tl i hi
  · rw [e, e, e, g' 49 (by omega), g' 50 (by omega), g' 51 (by omega)]; exact h.co
  · rw [e, g' 19 (by omega)]; exact h.nb
  · rw [g' 19 (by omega)]; exact h.bb
  · rw [g' 19 (by omega)] at hi
    rw [e2 _ _ (by omega), e2 _ _ (by omega), g' _ (by omega), g' _ (by omega)]; exact h.ba i hi
  · rw [g' 19 (by omega)] at hi
    refine ⟨by rw [g' _ (by omega)]; exact h.bv i hi, fun hj2 => ?_⟩
    rw [g' 19 (by omega)] at hj2
    rw [g' _ (by omega), g' _ (by omega)]; exact h.bo i hj2
  · rw [e, g' 52 (by omega)]; exact h.ma
  · rw [e, g' 53 (by omega)]; exact h.ns
  · rw [g' 53 (by omega)]; exact h.sb
  · rw [g' 53 (by omega)] at hi
    rw [e2 _ _ (by omega), e2 _ _ (by omega), e2 _ _ (by omega), g' _ (by omega), g' _ (by omega), g' _ (by omega), g' _ (by omega)]; exact h.st i hi
/-- the bits of the bends that are up -/
theorem PR.setUps {u : Int32} (h : PR k M f) (hg : ∀ i, i < 11 ∨ 19 ≤ i → g i = f i) (hu : 0 ≤ u.toInt ∧ u.toInt ≤ 255) (hz : u.toInt.toNat < 2 ^ (f 0).toInt.toNat) (hb : ∀ b : Nat, (b : Int) < (f 0).toInt → (g (11 + b) = if u.toInt.toNat.testBit b then 1 else 0)) : PR k (wr M k 2 u) g := by
  have n8 := h.n8
  have lb := h.lb
  have bb := h.bb
  have e2 : ∀ c i, c ≠ k → rd (wr M k 2 u) c i = rd M c i := fun c i hc => rd_wk hc
  have e : ∀ i, i ≠ 2 → rd (wr M k 2 u) k i = rd M k i := fun i hi => rd_wj hi
  refine ⟨?_, ?_, ?_, fun i hi => ?_, ?_, fun b hb' => ?_, ?_, ?_, ?_, fun i hi => ?_, ?_, ?_, ?_, fun i hi => ?_, fun i hi => ?_, ?_, ?_, ?_, fun i hi => ?_⟩
  · rw [e 0 (by decide), hg 1 (by omega)]; exact h.lc
  · rw [hg 1 (by omega)]; exact h.lb
  · rw [hg 1 (by omega), hg 0 (by omega)]; exact h.nn
  · rw [hg 1 (by omega)] at hi
    rw [e2 _ _ (by omega), hg _ (by omega)]; exact h.leg i hi
  · rw [rd_we]; exact hu
  · rw [hg 0 (by omega)] at hb'
    rw [rd_we]; exact hb b hb'
  · rw [rd_we, hg 0 (by omega)]; exact hz
  · rw [e 3 (by decide), e 4 (by decide), e 5 (by decide), hg 36 (by omega), hg 37 (by omega), hg 38 (by omega)]; exact h.sh
  · rw [hg 48 (by omega)]; exact h.fl
  · rw [e2 _ _ (by omega), hg _ (by omega)]; exact h.tl i hi
  · rw [e 7 (by decide), e 8 (by decide), e 9 (by decide), hg 49 (by omega), hg 50 (by omega), hg 51 (by omega)]; exact h.co
  · rw [e 10 (by decide), hg 19 (by omega)]; exact h.nb
  · rw [hg 19 (by omega)]; exact h.bb
  · rw [hg 19 (by omega)] at hi
    rw [e2 _ _ (by omega), e2 _ _ (by omega), hg _ (by omega), hg _ (by omega)]; exact h.ba i hi
  · rw [hg 19 (by omega)] at hi
    refine ⟨by rw [hg _ (by omega)]; exact h.bv i hi, fun hj2 => ?_⟩
    rw [hg 19 (by omega)] at hj2
    rw [hg _ (by omega), hg _ (by omega)]; exact h.bo i hj2
  · rw [e 13 (by decide), hg 52 (by omega)]; exact h.ma
  · rw [e 14 (by decide), hg 53 (by omega)]; exact h.ns
  · rw [hg 53 (by omega)]; exact h.sb
  · rw [hg 53 (by omega)] at hi
    rw [e2 _ _ (by omega), e2 _ _ (by omega), e2 _ _ (by omega), hg _ (by omega), hg _ (by omega), hg _ (by omega), hg _ (by omega)]; exact h.st i hi
/-- no step: whatever the row holds behind them -/
theorem PR.drop {m s : Int32} (h : PR k M f) (hg : ∀ i, i < 52 → g i = f i) (h52 : g 52 = 0) (h53 : g 53 = 0) (hm : m = 0) (hs : s = 0) : PR k (wr (wr M k 13 m) k 14 s) g := by
  subst hm; subst hs
  have n8 := h.n8
  have lb := h.lb
  have bb := h.bb
  have e2 : ∀ c i, c ≠ k → rd (wr (wr M k 13 0) k 14 0) c i = rd M c i := fun c i hc => by rw [rd_wk hc, rd_wk hc]
  have e : ∀ i, i ≠ 13 → i ≠ 14 → rd (wr (wr M k 13 0) k 14 0) k i = rd M k i := fun i h1 h2 => by rw [rd_wj h2, rd_wj h1]
  have z : (g 53).toInt = 0 := by rw [h53]; rfl
  refine ⟨?_, ?_, ?_, fun i hi => ?_, ?_, fun b hb' => ?_, ?_, ?_, ?_, fun i hi => ?_, ?_, ?_, ?_, fun i hi => ?_, fun i hi => ?_, ?_, ?_, ?_, fun i hi => ?_⟩
  · rw [e 0 (by decide) (by decide), hg 1 (by omega)]; exact h.lc
  · rw [hg 1 (by omega)]; exact h.lb
  · rw [hg 1 (by omega), hg 0 (by omega)]; exact h.nn
  · rw [hg 1 (by omega)] at hi
    rw [e2 _ _ (by omega), hg _ (by omega)]; exact h.leg i hi
  · rw [e 2 (by decide) (by decide)]; exact h.ub
  · rw [hg 0 (by omega)] at hb'
    rw [e 2 (by decide) (by decide), hg _ (by omega)]; exact h.up b hb'
  · rw [e 2 (by decide) (by decide), hg 0 (by omega)]; exact h.uz
  · rw [e 3 (by decide) (by decide), e 4 (by decide) (by decide), e 5 (by decide) (by decide), hg 36 (by omega), hg 37 (by omega), hg 38 (by omega)]; exact h.sh
  · rw [hg 48 (by omega)]; exact h.fl
  · rw [e2 _ _ (by omega), hg _ (by omega)]; exact h.tl i hi
  · rw [e 7 (by decide) (by decide), e 8 (by decide) (by decide), e 9 (by decide) (by decide), hg 49 (by omega), hg 50 (by omega), hg 51 (by omega)]; exact h.co
  · rw [e 10 (by decide) (by decide), hg 19 (by omega)]; exact h.nb
  · rw [hg 19 (by omega)]; exact h.bb
  · rw [hg 19 (by omega)] at hi
    rw [e2 _ _ (by omega), e2 _ _ (by omega), hg _ (by omega), hg _ (by omega)]; exact h.ba i hi
  · rw [hg 19 (by omega)] at hi
    refine ⟨by rw [hg _ (by omega)]; exact h.bv i hi, fun hj2 => ?_⟩
    rw [hg 19 (by omega)] at hj2
    rw [hg _ (by omega), hg _ (by omega)]; exact h.bo i hj2
  · rw [rd_wj (by decide), rd_we, h52]
  · rw [rd_we, h53]
  · rw [z]; decide
  · exfalso; rw [z] at hi; omega
end ED
end
/-! part 60zz9.step -/
section
/-! a step made: a part's lists, a row's slots -/
section SE
variable {M : Mem} {k : Nat} {f g : Nat → Int32}
theorem PR.step {n : Nat} {c ga co s m : Int32} (h : PR k M f) (hn : (f 53).toInt = (n : Int)) (h8 : n < 8) (hg : ∀ i, i < 52 → g i = f i) (ho : ∀ i, 54 ≤ i → ¬ (54 + 4 * n ≤ i ∧ i < 58 + 4 * n) → g i = f i) (hs : s.toInt = (n : Int) + 1) (g53 : g 53 = s) (g52 : g 52 = m) (hc : c.toInt = 2 * (g (54 + 4 * n)).toInt + (g (55 + 4 * n)).toInt) (hga : g (56 + 4 * n) = ga) (hco : g (57 + 4 * n) = co) : PR k (wr (wr (wr (wr (wr M (k + 5) n c) (k + 6) n ga) (k + 7) n co) k 14 s) k 13 m) g := by
  have n8 := h.n8
  have lb := h.lb
  have bb := h.bb
  have e2 : ∀ c' i, c' ≠ k → c' ≠ k + 5 → c' ≠ k + 6 → c' ≠ k + 7 → rd (wr (wr (wr (wr (wr M (k + 5) n c) (k + 6) n ga) (k + 7) n co) k 14 s) k 13 m) c' i = rd M c' i := fun c' i h1 h2 h3 h4 => by rw [rd_wk h1, rd_wk h1, rd_wk h4, rd_wk h3, rd_wk h2]
  have e : ∀ i, i ≠ 13 → i ≠ 14 → rd (wr (wr (wr (wr (wr M (k + 5) n c) (k + 6) n ga) (k + 7) n co) k 14 s) k 13 m) k i = rd M k i := fun i h1 h2 => by rw [rd_wj h1, rd_wj h2, rd_wk (by omega), rd_wk (by omega), rd_wk (by omega)]
  refine ⟨?_, ?_, ?_, fun i hi => ?_, ?_, fun b hb' => ?_, ?_, ?_, ?_, fun i hi => ?_, ?_, ?_, ?_, fun i hi => ?_, fun i hi => ?_, ?_, ?_, ?_, fun i hi => ?_⟩
  · rw [e 0 (by decide) (by decide), hg 1 (by omega)]; exact h.lc
  · rw [hg 1 (by omega)]; exact h.lb
  · rw [hg 1 (by omega), hg 0 (by omega)]; exact h.nn
  · rw [hg 1 (by omega)] at hi
    rw [e2 _ _ (by omega) (by omega) (by omega) (by omega), hg _ (by omega)]; exact h.leg i hi
  · rw [e 2 (by decide) (by decide)]; exact h.ub
  · rw [hg 0 (by omega)] at hb'
    rw [e 2 (by decide) (by decide), hg _ (by omega)]; exact h.up b hb'
  · rw [e 2 (by decide) (by decide), hg 0 (by omega)]; exact h.uz
  · rw [e 3 (by decide) (by decide), e 4 (by decide) (by decide), e 5 (by decide) (by decide), hg 36 (by omega), hg 37 (by omega), hg 38 (by omega)]; exact h.sh
  · rw [hg 48 (by omega)]; exact h.fl
  · rw [e2 _ _ (by omega) (by omega) (by omega) (by omega), hg _ (by omega)]; exact h.tl i hi
  · rw [e 7 (by decide) (by decide), e 8 (by decide) (by decide), e 9 (by decide) (by decide), hg 49 (by omega), hg 50 (by omega), hg 51 (by omega)]; exact h.co
  · rw [e 10 (by decide) (by decide), hg 19 (by omega)]; exact h.nb
  · rw [hg 19 (by omega)]; exact h.bb
  · rw [hg 19 (by omega)] at hi
    rw [e2 _ _ (by omega) (by omega) (by omega) (by omega), e2 _ _ (by omega) (by omega) (by omega) (by omega), hg _ (by omega), hg _ (by omega)]; exact h.ba i hi
  · rw [hg 19 (by omega)] at hi
    refine ⟨by rw [hg _ (by omega)]; exact h.bv i hi, fun hj2 => ?_⟩
    rw [hg 19 (by omega)] at hj2
    rw [hg _ (by omega), hg _ (by omega)]; exact h.bo i hj2
  · rw [rd_we, g52]
  · rw [rd_wj (by decide), rd_we, g53]
  · rw [g53]; omega
  · rw [g53] at hi
    by_cases q : i = n
    · subst q
      refine ⟨?_, ?_, ?_⟩
      · rw [rd_wk (by omega), rd_wk (by omega), rd_wk (by omega), rd_wk (by omega), rd_we]; exact hc
      · rw [rd_wk (by omega), rd_wk (by omega), rd_wk (by omega), rd_we, hga]
      · rw [rd_wk (by omega), rd_wk (by omega), rd_we, hco]
    · rw [rd_wk (by omega), rd_wk (by omega), rd_wk (by omega), rd_wk (by omega), rd_wj q, rd_wk (by omega), rd_wk (by omega), rd_wk (by omega), rd_wj q, rd_wk (by omega), rd_wk (by omega), rd_wk (by omega), rd_wj q, rd_wk (by omega), rd_wk (by omega), ho _ (by omega) (by omega), ho _ (by omega) (by omega), ho _ (by omega) (by omega), ho _ (by omega) (by omega)]
      exact h.st i (by omega)
end SE
end
/-! part 60zza.unfold -/
section
/-! unfold, by both -/
section UF
variable {M N N0 : Mem}
theorem unf_l {x : Int32} : ∀ (n i : Nat) (N : Mem), i ≤ 86 → KS (fun k j => k = 136 ∧ 54 ≤ j) N0 N → 54 ≤ i → Pc (mX7_unfold_l36 135 n x (Int32.ofNat i) N) (fun q => KS (fun k j => k = 136 ∧ 54 ≤ j) N0 q.1 ∧ q.2 = x) := by
  intro n
  induction n with
  | zero => intro i N _ _ _; exact Pc.n
  | succ n IH =>
    intro i N hi hk h54
    show Pc (mX7_unfold_b36 135 (mX7_unfold_l36 135 n) x (Int32.ofNat i) N) _
    unfold mX7_unfold_b36
    have ti : (Int32.ofNat i).toInt = (i : Int) := t_of (by omega)
    have ci := c_of (a := i) (by omega)
    rw [ci]
    refine Pc.i (fun c => Pc.ok ⟨hk, rfl⟩) (fun c => Pc.k (fun _ => Pc.b (fun M17 e17 => Pc.b (fun y ey => ?_))))
    have c := i_nle c
    rw [ti, show ((86 : Int32)).toInt = 86 from rfl] at c
    have ey : y = Int32.ofNat (i + 1) := ey.trans (Int32.ofNat_add i 1).symm
    rw [ey]
    exact IH (i + 1) M17 (by omega) (by rw [e17]; exact hk.wr ⟨rfl, h54⟩) (by omega)
abbrev SEc (c _ : Nat) : Prop := (5 ≤ c ∧ c < 13) ∨ c = 21 ∨ (23 ≤ c ∧ c < 103)
abbrev SEr (k j : Nat) : Prop := k = 136 ∨ k = 139 ∨ (k = 135 ∧ (j = 4 ∨ j = 5))
theorem HRel.ks {M' N' : Mem} (h : HRel M N) (hM : ∀ c j, c = 21 ∨ (23 ≤ c ∧ c < 103) → rd M' c j = rd M c j) (hN : ∀ c j, c = 139 ∨ (c = 135 ∧ j = 4) → rd N' c j = rd N c j) : HRel M' N' := by
  obtain ⟨e, o, h4, h2, h1, he, ho, hr⟩ := h
  refine ⟨e, o, ?_, ?_, ?_, he, ho, fun i hi => ?_⟩
  · rw [hN 135 4 (Or.inr ⟨rfl, rfl⟩)]; exact h4
  · rw [hM 21 2 (Or.inl rfl)]; exact h2
  · rw [hM 21 1 (Or.inl rfl)]; exact h1
  · have hm : (o + i) % 10 < 10 := Nat.mod_lt _ (by decide)
    exact ((hr i hi).mem (fun c j a1 a2 => hM c j (Or.inr ⟨by omega, by omega⟩))).cong (fun p _ => hN 139 _ (Or.inl rfl))
theorem unfold_R (hH : HRel M N) (hP : PR 5 M (row 136 N)) : R2 (mX6_unfold 0 M) (mX7_unfold 135 N) (fun p q => p.2 = q.2 ∧ rd q.1 135 5 = 0 ∧ HRel p.1 q.1 ∧ PR 5 p.1 (row 136 q.1) ∧ KS SEc M p.1 ∧ KS SEr N q.1) := by
  unfold mX6_unfold mX7_unfold mX1_dropSteps
  simp only [cal_ite, cal_cap, cal_cal, cal_chk, cal_some, cal_bnd]
  refine R2.br (fun N1 e1 => ?_)
  have k1 : KS SEr N N1 := by rw [e1]; exact KS.rf.wr (Or.inr (Or.inr ⟨rfl, Or.inr rfl⟩))
  have r1 : row 136 N1 = row 136 N := by rw [e1]; exact row_wn (by decide)
  have hH1 : HRel M N1 := hH.ks (fun _ _ _ => rfl) (fun c j z => by rw [e1, rd_eq, if_neg (by omega)])
  have n5 : rd N1 135 5 = 0 := by rw [e1, rd_we]
  refine R2.mm (rem_R hH1 (by rw [r1]; exact hP)) (fun M3 _ N5 _ r => ?_)
  obtain ⟨hH3, kM, kN⟩ := r
  have hH3 : HRel M3 N5 := hH3
  have kM : KS SHc M M3 := kM
  have kN : KS SHi N1 N5 := kN
  have hP3 : PR 5 M3 (row 136 N5) := by
    rw [row_ks kN (fun j z => by unfold SHi at z; omega), r1]
    exact hP.ks kM (fun c j a1 a2 z => by unfold SHc at z; omega)
  refine R2.bl (fun x1 ex1 => R2.bl (fun M4 e4 => R2.bl (fun M5 e5 => R2.kr (fun _ => R2.br (fun y1 ey1 => R2.kr (fun _ => R2.br (fun N10 e10 => R2.kr (fun _ => R2.br (fun N13 e13 => ?_)))))))))
  have e10 : N10 = wr N5 136 53 0 := e10
  have e13 : N13 = wr N10 136 52 0 := e13
  have exy : x1 = y1 := by
    rw [ex1, ey1]; exact hP3.ns
  intro p q hp hq
  have w := unf_l (N0 := N13) 5000 54 N13 (by omega) KS.rf (by omega) _ hq
  cases hp
  have kq : KS (fun k j => k = 136 ∧ 54 ≤ j) N13 q.1 := w.1
  have q5 : ∀ c j, ¬ (c = 136 ∧ 52 ≤ j) → rd q.1 c j = rd N5 c j := fun c j z => by
    rw [kq c j (by omega), e13, rd_eq, if_neg (by omega), e10, rd_eq, if_neg (by omega)]
  have m5 : ∀ c j, c ≠ 5 → rd M5 c j = rd M3 c j := fun c j z => by rw [e5, rd_wk z, e4, rd_wk z]
  refine ⟨?_, ?_, ?_, ?_, ?_, ?_⟩
  · show x1 = q.2
    rw [w.2]; exact exy
  · rw [q5 135 5 (by omega), kN 135 5 (by decide)]; exact n5
  · exact hH3.ks (fun c j z => m5 c j (by omega)) (fun c j z => q5 c j (by omega))
  · show PR 5 M5 _
    rw [e5, e4]
    refine hP3.drop (fun i hi => q5 136 i (by omega)) ?_ ?_ rfl rfl
    · show rd q.1 136 52 = 0
      rw [kq 136 52 (by omega), e13, rd_we]
    · show rd q.1 136 53 = 0
      rw [kq 136 53 (by omega), e13, rd_wj (by decide), e10, rd_we]
  · intro c j z
    show rd M5 c j = _
    rw [m5 c j (fun y => z (Or.inl ⟨by omega, by omega⟩))]
    exact kM c j (fun y => z (Or.inr y))
  · intro c j z
    rw [q5 c j (fun y => z (Or.inl y.1)), kN c j (fun y => z ?_)]
    · exact k1 c j z
    · rcases y with y | y
      · exact Or.inr (Or.inl y)
      · exact Or.inr (Or.inr ⟨y.1, Or.inl y.2⟩)
end UF
end
/-! part 60zzb.bits -/
section
/-! the bits of an int -/
def bt (x : Int32) (c : Nat) : Bool := x.toBitVec.getLsbD c
theorem bt_0 {d : Nat} : bt 0 d = false := by unfold bt; simp
theorem bt_or {x y : Int32} {d : Nat} : bt (x ||| y) d = (bt x d || bt y d) := by unfold bt; simp
theorem bt_ext {x y : Int32} (h : ∀ d, d < 32 → bt x d = bt y d) : x = y := by
  apply Int32.toBitVec_inj.mp
  exact BitVec.eq_of_getLsbD_eq h
theorem sh1_bv : ∀ c, c < 16 → ((1 : Int32) <<< (Int32.ofNat c &&& 31)).toBitVec = BitVec.twoPow 32 c := by decide
theorem bt_sh {c d : Nat} (hc : c < 16) : bt ((1 : Int32) <<< (Int32.ofNat c &&& 31)) d = decide (c = d) := by
  unfold bt
  rw [sh1_bv c hc, BitVec.getLsbD_twoPow]
  have h : decide (c < 32) = true := decide_eq_true (by omega)
  rw [h, Bool.true_and]
theorem sm_bv : ∀ c, c < 16 → ((Int32.ofNat c &&& 31).toBitVec.smod 32).toNat = c := by decide
theorem bt_get {x : Int32} {c : Nat} (hc : c < 16) : (((x >>> (Int32.ofNat c &&& 31)) &&& (1 : Int32)) = 0) ↔ bt x c = false := by
  have e : ∀ d, bt ((x >>> (Int32.ofNat c &&& 31)) &&& (1 : Int32)) d = (decide (d = 0) && bt x c) := by
    intro d
    unfold bt
    rw [Int32.toBitVec_and, BitVec.getLsbD_and, Int32.toBitVec_shiftRight, BitVec.sshiftRight', sm_bv c hc, BitVec.getLsbD_sshiftRight]
    show (_ && (1#32).getLsbD d) = _
    rw [BitVec.getLsbD_one]
    by_cases h : d = 0
    · subst h
      simp
      intro h; omega
    · simp [h]
  constructor
  · intro h
    have := e 0
    rw [h, bt_0] at this
    simpa using this.symm
  · intro h
    refine bt_ext (fun d _ => ?_)
    rw [e, h, bt_0, Bool.and_false]
theorem f_shr1c : ∀ c, c < 16 → Int32.ofNat c >>> ((1 : Int32) &&& 31) = Int32.ofNat (c / 2) := by decide
theorem f_15 {a c : Nat} (ha : a < 256) (hc : c < 16) : (Int32.ofNat a * (16 : Int32) + Int32.ofNat c).toInt = 16 * (a : Int) + c := by
  have ta : (Int32.ofNat a).toInt = (a : Int) := t_of (by omega)
  have tc : (Int32.ofNat c).toInt = (c : Int) := t_of (by omega)
  have e : Int32.ofNat a * (16 : Int32) = (16 : Int32) * Int32.ofNat a := Int32.mul_comm _ _
  rw [e]
  exact ix16 ha hc
theorem f_15c {a c : Nat} (ha : a < 256) (hc : c < 16) : (Int32.ofNat a * (16 : Int32) + Int32.ofNat c).toNatClampNeg = 16 * a + c := by rw [i_clamp, f_15 ha hc]; omega
/-! a part that bends like another -/
def BL (k : Nat) (M : Mem) (k' : Nat) (M' : Mem) : Prop := rd M' k' 0 = rd M k 0 ∧ rd M' k' 2 = rd M k 2 ∧ (∀ j : Nat, j < 9 → (j : Int) < (rd M k 0).toInt → rd M' (k' + 1) j = rd M (k + 1) j) ∧ ∀ j, j < 10 → rd M' (k' + 2) j = rd M (k + 2) j
section BLS
variable {k k' k'' : Nat} {M M' M'' N : Mem} {f : Nat → Int32}
theorem BL.rf : BL k M k M := ⟨rfl, rfl, fun _ _ _ => rfl, fun _ _ => rfl⟩
theorem BL.sy (h : BL k M k' M') : BL k' M' k M := ⟨h.1.symm, h.2.1.symm, fun j h9 hj => (h.2.2.1 j h9 (by rw [← h.1]; exact hj)).symm, fun j hj => (h.2.2.2 j hj).symm⟩
theorem BL.tr (h : BL k M k' M') (h' : BL k' M' k'' M'') : BL k M k'' M'' := ⟨h'.1.trans h.1, h'.2.1.trans h.2.1, fun j h9 hj => (h'.2.2.1 j h9 (by rw [h.1]; exact hj)).trans (h.2.2.1 j h9 hj), fun j hj => (h'.2.2.2 j hj).trans (h.2.2.2 j hj)⟩
theorem PB.bl (hP : PB k M f) (h : BL k M k' M') : PB k' M' f := by
  have hb := hP.lb
  have hl := hP.lc
  refine ⟨?_, hP.lb, hP.nn, fun j hj => ?_, ?_, fun b hb => ?_, ?_, fun j hj => ?_⟩
  · rw [h.1]; exact hP.lc
  · rw [h.2.2.1 j (by omega) (by rw [hl]; exact hj)]; exact hP.leg j hj
  · rw [h.2.1]; exact hP.ub
  · rw [h.2.1]; exact hP.up b hb
  · rw [h.2.1]; exact hP.uz
  · rw [h.2.2.2 j hj]; exact hP.tl j hj
theorem BL.ks {S : Nat → Nat → Prop} (hk : KS S M M') (hs : ∀ c j, k ≤ c → c < k + 8 → ¬ S c j) : BL k M k M' := ⟨hk _ _ (hs _ _ (by omega) (by omega)), hk _ _ (hs _ _ (by omega) (by omega)), fun _ _ _ => hk _ _ (hs _ _ (by omega) (by omega)), fun _ _ => hk _ _ (hs _ _ (by omega) (by omega))⟩
/-- how many bends a part has -/
def nb (k : Nat) (M : Mem) : Nat := ((rd M k 0).toInt - 1).toNat
theorem BL.bn (h : BL k M k' M') : nb k' M' = nb k M := by unfold nb; rw [h.1]
theorem PB.bn (h : PB k M f) : (f 0).toInt = (nb k M : Int) := by
  have h1 := h.nn
  have h2 := h.lb
  unfold nb
  rw [h.lc]
  split at h1 <;> omega
/-- what every state of the reference with such a part says of a step -/
def RV (k : Nat) (M : Mem) (a c : Nat) (v : Int32) : Prop := ∀ N, PB k M (row 136 N) → Pc (mX7_reasonOf 135 (Int32.ofNat (c / 2)) (Int32.ofNat (c % 2)) (Int32.ofNat a) N) (fun q => q.2 = v)
def GV (k : Nat) (M : Mem) (a c : Nat) (v : Int32) : Prop := ∀ N, PB k M (row 136 N) → Pc (mX7_gaugeOf 135 (Int32.ofNat (c / 2)) (Int32.ofNat (c % 2)) (Int32.ofNat a) N) (fun q => q.2 = v)
theorem RV.bl {a c : Nat} {v : Int32} (h : RV k M a c v) (e : BL k M k' M') : RV k' M' a c v := fun N hN => h N (hN.bl e.sy)
theorem GV.bl {a c : Nat} {v : Int32} (h : GV k M a c v) (e : BL k M k' M') : GV k' M' a c v := fun N hN => h N (hN.bl e.sy)
/-- what the class found of a step holds of every such state -/
theorem reason_V {a c : Nat} (h8 : k + 8 ≤ 112) (ha : a < 2 ^ nb k M) (hc : c < 2 * nb k M) : Pc (mX2_reasonFor 112 k (Int32.ofNat a) (Int32.ofNat c) M) (fun q => RV k M a c q.2) := by
  intro q e N hN
  have hn := hN.bn
  have ec : 2 * (c / 2) + c % 2 = c := by omega
  have h := reason_B (k := 112) (b := c / 2) (s := c % 2) h8 hN hn (by omega) (by omega) ha
  rw [ec] at h
  exact fun q' e' => ((h q q' e e').1).symm
theorem gauge_V {a c : Nat} (h8 : k + 8 ≤ 112) (ha : a < 2 ^ nb k M) (hc : c < 2 * nb k M) {g : Int32} (hl : mX2_layStep 112 k (Int32.ofNat a) (Int32.ofNat c) M = some (M', ())) (hg : mX2_reachToBack 112 M' = some g) : GV k M a c g := by
  intro N hN
  have hn := hN.bn
  have ec : 2 * (c / 2) + c % 2 = c := by omega
  have h := gaugeOf_B (k := 112) (b := c / 2) (s := c % 2) h8 hN hn (by omega) (by omega) ha
  rw [ec] at h
  refine fun q' e' => ?_
  have e : cal (mX2_layStep 112 k (Int32.ofNat a) (Int32.ofNat c) M) (fun M1 _ => cap (mX2_reachToBack 112 M1) (fun r => some (M1, r))) = some (M', g) := by
    rw [hl]
    show cap (mX2_reachToBack 112 M') (fun r => some (M', r)) = _
    rw [hg]; rfl
  exact ((h _ q' e e').1).symm
/-- a step that isn't refused: it isn't made, and it is laid -/
theorem reason_0 {a c : Nat} (ha : a < 256) (hc : c < 16) : Pc (mX2_reasonFor 112 k (Int32.ofNat a) (Int32.ofNat c) M) (fun q => q.2 = 0 → a.testBit (c / 2) = false ∧ mX2_layStep 112 k (Int32.ofNat a) (Int32.ofNat c) M = some (q.1, ())) := by
  have hf0 := f_has0 a ha (c / 2) (by omega)
  have go : ∀ y : Int32, Pc (mX2_reasonFor_b20 112 k (Int32.ofNat a) (Int32.ofNat c) (Int32.ofNat (c / 2)) y M) (fun q => q.2 = 0 → a.testBit (c / 2) = false ∧ mX2_layStep 112 k (Int32.ofNat a) (Int32.ofNat c) M = some (q.1, ())) := by
    intro y
    unfold mX2_reasonFor_b20
    have no : ∀ (M1 : Mem) (v : Int32), ¬ v = 0 → Pc (some (M1, v)) (fun q => q.2 = 0 → a.testBit (c / 2) = false ∧ mX2_layStep 112 k (Int32.ofNat a) (Int32.ofNat c) M = some (q.1, ())) := fun M1 v hv => Pc.ok (fun z => absurd z hv)
    refine Pc.i (fun c0 => ?_) (fun _ => no _ _ (by decide))
    have tz := hf0.mp c0
    refine Pc.i (fun _ => no _ _ (by decide)) (fun _ => Pc.i (fun _ => no _ _ (by decide)) (fun _ => Pc.k (fun _ => Pc.k (fun _ => Pc.i (fun _ => ?_) (fun _ => no _ _ (by decide))))))
    refine Pc.m (Pc.self _) (fun M11 u e11 => ?_)
    refine Pc.c (Pc.self _) (fun r13 _ => Pc.k (fun _ => Pc.i (fun _ => no _ _ (by decide)) (fun _ => Pc.k (fun _ => Pc.i (fun _ => ?_) (fun _ => no _ _ (by decide))))))
    refine Pc.c (Pc.self _) (fun r20 _ => Pc.b (fun x8 _ => Pc.i (fun _ => Pc.i (fun _ => ?_) (fun _ => no _ _ (by decide))) (fun _ => no _ _ (by decide))))
    exact Pc.c (Pc.self _) (fun r26 _ => Pc.i (fun _ => Pc.ok (fun _ => ⟨tz, e11⟩)) (fun _ => no _ _ (by decide)))
  unfold mX2_reasonFor
  rw [f_shr1c c hc]
  exact Pc.b (fun x e => by subst e; exact Pc.i (fun _ => go _) (fun _ => go _))
end BLS
end
/-! part 60zzc.find -/
section
/-! the planner's tables: which steps are open in a state -/
def op (M : Mem) (a c : Nat) : Bool := bt (rd M (110 + 17) a) c
def Tb (k : Nat) (M : Mem) (w : Int32) (gs : Nat → Int32) (a : Nat) : Prop := (∀ c, c < 2 * nb k M → (bt w c = true → RV k M a c 0 ∧ GV k M a c (gs c) ∧ a.testBit (c / 2) = false) ∧ (bt w c = false → ∃ v : Int32, ¬ v = 0 ∧ RV k M a c v)) ∧ ∀ c, 2 * nb k M ≤ c → bt w c = false
def Tp (k : Nat) (M : Mem) (w : Int32) (gs : Nat → Int32) (a c : Nat) : Prop := (∀ c', c' < c → (bt w c' = true → RV k M a c' 0 ∧ GV k M a c' (gs c') ∧ a.testBit (c' / 2) = false) ∧ (bt w c' = false → ∃ v : Int32, ¬ v = 0 ∧ RV k M a c' v)) ∧ ∀ c', c ≤ c' → bt w c' = false
def TabK (k : Nat) (M : Mem) : Prop := ∀ a, a < 2 ^ nb k M → ¬ rd M (110 + 17) a = -1 → Tb k M (rd M (110 + 17) a) (fun c => rd M (110 + 20) (16 * a + c)) a
def SFs (a c j : Nat) : Prop := SPs 112 c j ∨ (c = 130 ∧ 16 * a ≤ j ∧ j < 16 * a + 16)
section FI
variable {k k' : Nat} {M M' : Mem} {a : Nat}
theorem Tb.bl {w : Int32} {gs : Nat → Int32} (h : Tb k M w gs a) (e : BL k M k' M') : Tb k' M' w gs a := by
  have en := e.bn
  refine ⟨fun c hc => ⟨fun hw => ?_, fun hw => ?_⟩, fun c hc => h.2 c (by rw [← en]; exact hc)⟩
  · have q := (h.1 c (by rw [← en]; exact hc)).1 hw
    exact ⟨q.1.bl e, q.2.1.bl e, q.2.2⟩
  · obtain ⟨v, q1, q2⟩ := (h.1 c (by rw [← en]; exact hc)).2 hw
    exact ⟨v, q1, q2.bl e⟩
theorem Tb.gs {w : Int32} {gs gs' : Nat → Int32} (h : Tb k M w gs a) (e : ∀ c, c < 2 * nb k M → gs' c = gs c) : Tb k M w gs' a := by
  refine ⟨fun c hc => ⟨fun hw => ?_, (h.1 c hc).2⟩, h.2⟩
  have q := (h.1 c hc).1 hw
  rw [e c hc]; exact q
theorem TabK.bl (h : TabK k M) (e : BL k M k' M') (e1 : ∀ a, rd M' (110 + 17) a = rd M (110 + 17) a) (e2 : ∀ j, rd M' (110 + 20) j = rd M (110 + 20) j) : TabK k' M' := by
  intro a ha hw
  rw [e.bn] at ha
  rw [e1] at hw ⊢
  exact ((h a ha hw).bl e).gs (fun c _ => e2 _)
theorem pc_bends (h9 : (rd M k 0).toInt ≤ 9) : Pc (mX1_bendCount k M) (fun r => r = Int32.ofNat (nb k M)) := by
  have n1 : ((1 : Int32)).toInt = 1 := rfl
  unfold mX1_bendCount nb
  refine Pc.i (fun c => Pc.ok ?_) (fun c => Pc.ok ?_)
  · have c : (rd M k 0).toInt ≤ 0 := i_le.mp c
    rw [show ((rd M k 0).toInt - 1).toNat = 0 by omega]; rfl
  · have c : 0 < (rd M k 0).toInt := i_nle c
    rw [i_eq, i_sub (by omega) (by omega), n1, t_of (by omega)]
    omega
theorem nb8 (h9 : (rd M k 0).toInt ≤ 9) : nb k M ≤ 8 := by unfold nb; omega
theorem n_256 {n a : Nat} (h8 : n ≤ 8) (ha : a < 2 ^ n) : a < 256 := by
  have : 2 ^ n ≤ 2 ^ 8 := Nat.pow_le_pow_right (by decide) h8
  have h8 : (2 : Nat) ^ 8 = 256 := rfl
  omega
theorem findS_l (h8 : k + 8 ≤ 112) (h9 : (rd M k 0).toInt ≤ 9) (ha : a < 2 ^ nb k M) : ∀ (fuel c : Nat) (w : Int32) (M1 : Mem), c ≤ 2 * nb k M → KS (SFs a) M M1 → Tp k M w (fun c => rd M1 (110 + 20) (16 * a + c)) a c →
    Pc (mX3_findSteps_l5 110 k fuel (Int32.ofNat a) w (Int32.ofNat c) M1) (fun q => KS (SFs a) M q.1 ∧ Tb k M q.2 (fun c => rd q.1 (110 + 20) (16 * a + c)) a) := by
  have n8 := nb8 h9
  have a256 := n_256 n8 ha
  intro fuel
  induction fuel with
  | zero => intro c w M1 _ _ _ q e; cases e
  | succ fuel IH =>
    intro c w M1 hc hk hp
    have hbl : BL k M k M1 := BL.ks hk (fun c j h1 h2 z => by unfold SFs SPs at z; omega)
    have en := hbl.bn
    show Pc (mX3_findSteps_b5 110 k (mX3_findSteps_l5 110 k fuel) (Int32.ofNat a) w (Int32.ofNat c) M1) _
    unfold mX3_findSteps_b5
    refine Pc.c (pc_bends (by rw [hbl.1]; exact h9)) (fun r2 e2 => ?_)
    have e2 : r2 = Int32.ofNat (nb k M) := by rw [e2, en]
    have t2 : ((2 : Int32) * r2).toInt = 2 * (nb k M : Int) := by
      rw [e2, i_mulc (a := (2 : Int32)) (c := 2) rfl (by rw [t_of (by omega)]; omega) (by rw [t_of (by omega)]; omega), t_of (by omega)]
    have tc : (Int32.ofNat c).toInt = (c : Int) := t_of (by omega)
    have fin : c = 2 * nb k M → Pc (some (M1, w)) (fun q => KS (SFs a) M q.1 ∧ Tb k M q.2 (fun c => rd q.1 (110 + 20) (16 * a + c)) a) := by
      intro e
      subst e
      exact Pc.ok ⟨hk, hp⟩
    refine Pc.i (fun c1 => fin ?_) (fun c1 => Pc.i (fun c2 => fin ?_) (fun c2 => ?_))
    · have c1 := i_le.mp c1
      rw [t2, tc] at c1; omega
    · have c2 := i_le.mp c2
      rw [tc, show ((16 : Int32)).toInt = 16 from rfl] at c2; omega
    have c1 := i_nle c1
    rw [t2, tc] at c1
    have hc2 : c < 2 * nb k M := by omega
    have next : ∀ (w' : Int32) (M2 : Mem), KS (SFs a) M M2 → Tp k M w' (fun c => rd M2 (110 + 20) (16 * a + c)) a (c + 1) → Pc (mX3_findSteps_b63 110 k (mX3_findSteps_l5 110 k fuel) (Int32.ofNat a) w' (Int32.ofNat c) M2) (fun q => KS (SFs a) M q.1 ∧ Tb k M q.2 (fun c => rd q.1 (110 + 20) (16 * a + c)) a) := by
      intro w' M2 hk2 hp2
      unfold mX3_findSteps_b63
      refine Pc.b (fun x ex => ?_)
      have e : x = Int32.ofNat (c + 1) := by rw [ex]; exact (Int32.ofNat_add c 1).symm
      rw [e]
      exact IH (c + 1) w' M2 (by omega) hk2 hp2
    have hb1 : BL k M1 k M := hbl.sy
    refine Pc.m ((reason_V (M := M1) (a := a) (c := c) h8 (by rw [en]; exact ha) (by rw [en]; exact hc2)).and ((reason_0 (k := k) (M := M1) (a := a) (c := c) a256 (by omega)).and (Fr.pc (uX2_reasonFor (k0 := 110 + 2) (k1 := k) (x2 := Int32.ofNat a) (x3 := Int32.ofNat c) (KS.rf : KS (SPs (110 + 2)) M1 M1))))) (fun M8 r7 p => ?_)
    obtain ⟨pV, p0, pK⟩ := p
    have pV : RV k M1 a c r7 := pV
    have pK : KS (SPs 112) M1 M8 := pK
    have hk8 : KS (SFs a) M M8 := hk.trans (pK.mono (fun c j h => Or.inl h))
    have g8 : ∀ j, rd M8 (110 + 20) j = rd M1 (110 + 20) j := fun j => pK _ _ (by unfold SPs; omega)
    have hz : bt w c = false := hp.2 c (Nat.le_refl _)
    refine Pc.i (fun c7 => ?_) (fun c7 => next w M8 hk8 ⟨fun c' h' => ?_, fun c' h' => hp.2 c' (by omega)⟩)
    · refine Pc.b (fun x3 e3 => Pc.c (Pc.self _) (fun r13 e13 => Pc.k (fun _ => Pc.b (fun M17 e17 => ?_))))
      have e13 : mX2_reachToBack 112 M8 = some r13 := e13
      have p0 := p0 c7
      have c7 : r7 = 0 := c7
      subst c7
      have hG := gauge_V (k := k) (M := M1) (M' := M8) (a := a) (c := c) h8 (by rw [en]; exact ha) (by rw [en]; exact hc2) p0.2 e13
      rw [f_15c a256 (by omega)] at e17
      subst e17
      refine next x3 _ (hk8.wr (Or.inr ⟨rfl, by omega, by omega⟩)) ⟨fun c' h' => ?_, fun c' h' => ?_⟩
      · by_cases e : c' = c
        · subst e
          rw [e3, bt_or, bt_sh (by omega), decide_eq_true rfl, Bool.or_true]
          refine ⟨fun _ => ⟨pV.bl hb1, ?_, p0.1⟩, fun z => absurd z (by decide)⟩
          show GV k M a c' (rd (wr M8 (110 + 20) (16 * a + c') r13) (110 + 20) (16 * a + c'))
          rw [rd_we]
          exact hG.bl hb1
        · have eb : bt x3 c' = bt w c' := by rw [e3, bt_or, bt_sh (by omega), decide_eq_false (fun z => e z.symm), Bool.or_false]
          rw [eb]
          have ew : rd (wr M8 (110 + 20) (16 * a + c) r13) (110 + 20) (16 * a + c') = rd M1 (110 + 20) (16 * a + c') := by rw [rd_wj (by omega)]; exact g8 _
          show (bt w c' = true → RV k M a c' 0 ∧ GV k M a c' (rd (wr M8 (110 + 20) (16 * a + c) r13) (110 + 20) (16 * a + c')) ∧ _) ∧ _
          rw [ew]
          exact hp.1 c' (by omega)
      · rw [e3, bt_or, bt_sh (by omega), decide_eq_false (fun z => by omega), Bool.or_false]
        exact hp.2 c' (by omega)
    · by_cases e : c' = c
      · subst e
        exact ⟨fun z => (Bool.false_ne_true (hz.symm.trans z)).elim, fun _ => ⟨r7, c7, pV.bl hb1⟩⟩
      · show (bt w c' = true → RV k M a c' 0 ∧ GV k M a c' (rd M8 (110 + 20) (16 * a + c')) ∧ _) ∧ _
        rw [g8]
        exact hp.1 c' (by omega)
theorem pc_findSteps (h8 : k + 8 ≤ 112) (h9 : (rd M k 0).toInt ≤ 9) (ha : a < 2 ^ nb k M) : Pc (mX3_findSteps 110 k (Int32.ofNat a) M) (fun q => KS (SFs a) M q.1 ∧ Tb k M q.2 (fun c => rd q.1 (110 + 20) (16 * a + c)) a) :=
  findS_l h8 h9 ha 5000 0 0 M (by omega) KS.rf ⟨fun c' h' => by omega, fun c' _ => bt_0⟩
theorem bt_m1 : bt (-1) 31 = true := by decide
theorem Tb.ne {w : Int32} {gs : Nat → Int32} (h : Tb k M w gs a) (n8 : nb k M ≤ 8) : ¬ w = -1 := by
  intro e
  have := h.2 31 (by omega)
  rw [e, bt_m1] at this
  cases this
theorem pc_isOpen {c : Nat} (ha : a < 256) (hc : c < 16) : mX3_isOpen 110 (Int32.ofNat a) (Int32.ofNat c) M = some (if op M a c = true then 1 else 0) := by
  unfold mX3_isOpen op
  have i1 : okb (Int32.ofNat a) 256 = true := ok_in (by rw [t_of (by omega)]; omega) (by rw [t_of (by omega)]; omega)
  have e1 : (Int32.ofNat a).toNatClampNeg = a := c_of (by omega)
  have hb := bt_get (x := rd M (110 + 17) a) hc
  rw [i1, e1]
  show ite2 (((rd M (110 + 17) a >>> (Int32.ofNat c &&& 31)) &&& (1 : Int32)) = 0) (some (0 : Int32)) (some (1 : Int32)) = _
  unfold ite2
  cases e : bt (rd M (110 + 17) a) c with
  | true =>
    rw [if_neg (fun z => by rw [hb.mp z] at e; cases e)]; rfl
  | false =>
    rw [if_pos (hb.mpr e)]; rfl
theorem pc_setBehind {c : Nat} (ha : a < 256) (hc : c < 16) : mX3_setBehind (Int32.ofNat a) (Int32.ofNat c) M = some (Int32.ofNat (a ||| 2 ^ (c / 2))) := by
  unfold mX3_setBehind
  rw [f_shr1c c hc, f_or a ha (c / 2) (by omega)]
end FI
end
/-! part 60zzd.reach -/
section
/-! which states can be come to -/
def RS (o : Nat → Nat → Bool) (r : Nat → Prop) (m : Nat) : Prop := r m ∧ (∀ b c, b < 256 → c < 16 → r b → o b c = true → r (b ||| 2 ^ (c / 2))) ∧ (∀ b, b < 256 → r b → b = m ∨ ∃ b' c, b' < b ∧ c < 16 ∧ r b' ∧ o b' c = true ∧ b = b' ||| 2 ^ (c / 2))
def rc (M : Mem) (b : Nat) : Prop := ¬ rd M (110 + 18) b = 0
def SRc (c j : Nat) : Prop := SPs 112 c j ∨ c = 127 ∨ c = 128 ∨ c = 130
def LI (k m : Nat) (M : Mem) (a : Nat) : Prop := TabK k M ∧ rc M m ∧ (∀ b, b < 256 → rc M b → b < 2 ^ nb k M ∧ b &&& m = m) ∧ (∀ b, b < a → b < 256 → rc M b → ¬ rd M (110 + 17) b = -1 ∧ ∀ c, c < 16 → op M b c = true → rc M (b ||| 2 ^ (c / 2))) ∧ (∀ b, b < 256 → rc M b → b = m ∨ ∃ b' c, b' < a ∧ b' < b ∧ c < 16 ∧ rc M b' ∧ op M b' c = true ∧ b = b' ||| 2 ^ (c / 2))
def LJ (k m : Nat) (M : Mem) (a c : Nat) : Prop := TabK k M ∧ rc M m ∧ (∀ b, b < 256 → rc M b → b < 2 ^ nb k M ∧ b &&& m = m) ∧ (∀ b, b < a → b < 256 → rc M b → ¬ rd M (110 + 17) b = -1 ∧ ∀ c, c < 16 → op M b c = true → rc M (b ||| 2 ^ (c / 2))) ∧ (rc M a → ¬ rd M (110 + 17) a = -1 ∧ ∀ c', c' < c → c' < 16 → op M a c' = true → rc M (a ||| 2 ^ (c' / 2))) ∧ (∀ b, b < 256 → rc M b → b = m ∨ ∃ b' c, b' < a + 1 ∧ b' < b ∧ c < 16 ∧ rc M b' ∧ op M b' c = true ∧ b = b' ||| 2 ^ (c / 2))
section RE
variable {k m : Nat} {M M0 : Mem} {a c : Nat} {P : Mem × Unit → Prop}
theorem rc_w {x b : Nat} : rc (wr M (110 + 18) x 1) b ↔ b = x ∨ rc M b := by
  unfold rc
  by_cases e : b = x
  · subst e
    rw [rd_we]
    exact ⟨fun _ => Or.inl rfl, fun _ => by decide⟩
  · rw [rd_wj e]
    exact ⟨fun h => Or.inr h, fun h => h.resolve_left e⟩
theorem LJ.end_ (h : LJ k m M a 16) : LI k m M (a + 1) := by
  refine ⟨h.1, h.2.1, h.2.2.1, fun b hb h2 hr => ?_, h.2.2.2.2.2⟩
  by_cases e : b = a
  · subst e
    have q := h.2.2.2.2.1 hr
    exact ⟨q.1, fun c hc ho => q.2 c hc hc ho⟩
  · exact h.2.2.2.1 b (by omega) h2 hr
theorem LJ.nx (h : LJ k m M a c) (hq : rc M a → op M a c = true → rc M (a ||| 2 ^ (c / 2))) : LJ k m M a (c + 1) := by
  refine ⟨h.1, h.2.1, h.2.2.1, h.2.2.2.1, fun hr => ⟨(h.2.2.2.2.1 hr).1, fun c' hc' h16 ho => ?_⟩, h.2.2.2.2.2⟩
  by_cases e : c' = c
  · subst e; exact hq hr ho
  · exact (h.2.2.2.2.1 hr).2 c' (by omega) h16 ho
/-- a step that leads on -/
theorem LJ.put (n8 : nb k M ≤ 8) (k8 : k + 8 ≤ 112) (ha : a < 256) (hc : c < 16) (h : LJ k m M a c) (hr : rc M a) (ho : op M a c = true) : (a ||| 2 ^ (c / 2)) < 256 ∧ LJ k m (wr M (110 + 18) (a ||| 2 ^ (c / 2)) 1) a (c + 1) := by
  have hn := h.2.2.1 a ha hr
  have hT := h.1 a hn.1 (h.2.2.2.2.1 hr).1
  have hc2 : c < 2 * nb k M := by
    by_cases q : c < 2 * nb k M
    · exact q
    · exact absurd (hT.2 c (by omega)) (by unfold op at ho; rw [ho]; decide)
  have hb := ((hT.1 c hc2).1 ho).2.2
  have hz := z_set (nb k M) (by omega) a hn.1 (c / 2) (by omega) hb
  have h256 := n_256 n8 hz.2.2.1
  have hbl : BL k M k (wr M (110 + 18) (a ||| 2 ^ (c / 2)) 1) := BL.ks (S := fun c _ => c = 128) (KS.rf.wr rfl) (fun c j h1 h2 z => by omega)
  have e17 : ∀ b, rd (wr M (110 + 18) (a ||| 2 ^ (c / 2)) 1) (110 + 17) b = rd M (110 + 17) b := fun b => rd_wk (by decide)
  have eop : ∀ b c', op (wr M (110 + 18) (a ||| 2 ^ (c / 2)) 1) b c' = op M b c' := fun b c' => by unfold op; rw [e17]
  refine ⟨h256, h.1.bl hbl e17 (fun _ => rd_wk (by decide)), rc_w.mpr (Or.inr h.2.1), fun b h2 hr' => ?_, fun b hb' h2 hr' => ?_, fun hr' => ?_, fun b h2 hr' => ?_⟩
  · rw [hbl.bn]
    rcases rc_w.mp hr' with e | hr'
    · subst e
      exact ⟨hz.2.2.1, z_sup hn.2⟩
    · exact h.2.2.1 b h2 hr'
  · rcases rc_w.mp hr' with e | hr'
    · omega
    · have q := h.2.2.2.1 b hb' h2 hr'
      rw [e17]
      refine ⟨q.1, fun c' hc' ho' => ?_⟩
      rw [eop] at ho'
      exact rc_w.mpr (Or.inr (q.2 c' hc' ho'))
  · have q := h.2.2.2.2.1 hr
    rw [e17]
    refine ⟨q.1, fun c' hc' h16 ho' => ?_⟩
    rw [eop] at ho'
    by_cases e : c' = c
    · subst e; exact rc_w.mpr (Or.inl rfl)
    · exact rc_w.mpr (Or.inr (q.2 c' (by omega) h16 ho'))
  · rcases rc_w.mp hr' with e | hr'
    · exact Or.inr ⟨a, c, by omega, by omega, hc, rc_w.mpr (Or.inr hr), by rw [eop]; exact ho, e⟩
    · rcases h.2.2.2.2.2 b h2 hr' with e | ⟨b', c', q1, q2, q3, q4, q5, q6⟩
      · exact Or.inl e
      · exact Or.inr ⟨b', c', q1, q2, q3, rc_w.mpr (Or.inr q4), by rw [eop]; exact q5, q6⟩
theorem rs_in (n8 : nb k M0 ≤ 8) (k8 : k + 8 ≤ 112) (ha : a < 256) {ih67 : Int32 → Mem → Option (Mem × Unit)} (H : ∀ M, KS SRc M0 M → LI k m M (a + 1) → Pc (ih67 (Int32.ofNat (a + 1)) M) P) : ∀ (fuel c : Nat) (M : Mem), c ≤ 16 → KS SRc M0 M → LJ k m M a c → Pc (mX3_reachSets_l107 110 k ih67 fuel (Int32.ofNat a) (Int32.ofNat c) M) P := by
  intro fuel
  induction fuel with
  | zero => intro c M _ _ _ q e; cases e
  | succ fuel IH =>
    intro c M hc hk h
    have hbl : BL k M0 k M := BL.ks hk (fun c j h1 h2 z => by unfold SRc SPs at z; omega)
    show Pc (mX3_reachSets_b107 110 k ih67 (mX3_reachSets_l107 110 k ih67 fuel) (Int32.ofNat a) (Int32.ofNat c) M) _
    unfold mX3_reachSets_b107
    have tc : (Int32.ofNat c).toInt = (c : Int) := t_of (by omega)
    have n16 : ((16 : Int32)).toInt = 16 := rfl
    have ca : (Int32.ofNat a).toNatClampNeg = a := c_of (by omega)
    refine Pc.i (fun c1 => ?_) (fun c1 => ?_)
    · have c1 := i_le.mp c1
      have e : c = 16 := by omega
      subst e
      refine Pc.b (fun x ex => ?_)
      have e : x = Int32.ofNat (a + 1) := by rw [ex]; exact (Int32.ofNat_add a 1).symm
      rw [e]
      exact H M hk h.end_
    · have c1 := i_nle c1
      have hc16 : c < 16 := by omega
      have next : ∀ M', KS SRc M0 M' → LJ k m M' a (c + 1) → Pc (mX3_reachSets_b142 110 k ih67 (mX3_reachSets_l107 110 k ih67 fuel) (Int32.ofNat a) (Int32.ofNat c) M') P := by
        intro M' hk' h'
        unfold mX3_reachSets_b142
        refine Pc.b (fun x ex => ?_)
        have e : x = Int32.ofNat (c + 1) := by rw [ex]; exact (Int32.ofNat_add c 1).symm
        rw [e]
        exact IH (c + 1) M' (by omega) hk' h'
      rw [ca, pc_isOpen ha hc16, pc_setBehind ha hc16]
      refine Pc.k (fun _ => Pc.i (fun c2 => next M hk (h.nx (fun z => absurd c2 z))) (fun c2 => ?_))
      refine Pc.c (Pc.ok (P := fun r => r = if op M a c = true then 1 else 0) rfl) (fun r21 e21 => Pc.i (fun c3 => next M hk (h.nx (fun _ z => ?_))) (fun c3 => ?_))
      · rw [if_pos z] at e21
        rw [e21] at c3; exact absurd c3 (by decide)
      · have ho : op M a c = true := by
          by_cases q : op M a c = true
          · exact q
          · rw [if_neg q] at e21; exact absurd e21 c3
        have q := h.put (by rw [hbl.bn]; exact n8) k8 ha hc16 c2 ho
        refine Pc.c (Pc.ok (P := fun r => r = Int32.ofNat (a ||| 2 ^ (c / 2))) rfl) (fun r25 e25 => Pc.k (fun _ => Pc.b (fun M29 e29 => ?_)))
        rw [e25, c_of (by omega), show vp_nar .boolean (1 : Int32) = 1 from by decide] at e29
        subst e29
        exact next _ (hk.wr (Or.inr (Or.inr (Or.inl rfl)))) q.2
theorem rs_out (n8 : nb k M0 ≤ 8) (h9 : (rd M0 k 0).toInt ≤ 9) (k8 : k + 8 ≤ 112) : ∀ (fuel a : Nat) (M : Mem), a ≤ 256 → KS SRc M0 M → LI k m M a → Pc (mX3_reachSets_l67 110 k fuel (Int32.ofNat a) M) (fun q => KS SRc M0 q.1 ∧ LI k m q.1 256) := by
  intro fuel
  induction fuel with
  | zero => intro a M _ _ _ q e; cases e
  | succ fuel IH =>
    intro a M ha hk h
    have hbl : BL k M0 k M := BL.ks hk (fun c j h1 h2 z => by unfold SRc SPs at z; omega)
    show Pc (mX3_reachSets_b67 110 k (mX3_reachSets_l67 110 k fuel) (Int32.ofNat a) M) _
    unfold mX3_reachSets_b67
    have ta : (Int32.ofNat a).toInt = (a : Int) := t_of (by omega)
    have n256 : ((256 : Int32)).toInt = 256 := rfl
    have ca : (Int32.ofNat a).toNatClampNeg = a := c_of (by omega)
    refine Pc.i (fun c1 => ?_) (fun c1 => ?_)
    · have c1 := i_le.mp c1
      have e : a = 256 := by omega
      subst e
      exact Pc.ok ⟨hk, h⟩
    · have c1 := i_nle c1
      have ha2 : a < 256 := by omega
      rw [ca]
      have go : ∀ M', KS SRc M0 M' → LJ k m M' a 0 → Pc (mX3_reachSets_b105 110 k (mX3_reachSets_l67 110 k fuel) (Int32.ofNat a) M') (fun q => KS SRc M0 q.1 ∧ LI k m q.1 256) := fun M' hk' h' => by
        unfold mX3_reachSets_b105
        exact rs_in n8 k8 ha2 (fun M2 hk2 h2 => IH (a + 1) M2 (by omega) hk2 h2) 5000 0 M' (by omega) hk' h'
      have so : ∀ b, b < 256 → rc M b → b = m ∨ ∃ b' c, b' < a + 1 ∧ b' < b ∧ c < 16 ∧ rc M b' ∧ op M b' c = true ∧ b = b' ||| 2 ^ (c / 2) := fun b hb hr => by
        rcases h.2.2.2.2 b hb hr with e | ⟨b', c', q1, q⟩
        · exact Or.inl e
        · exact Or.inr ⟨b', c', by omega, q⟩
      refine Pc.k (fun _ => Pc.i (fun c2 => go M hk ⟨h.1, h.2.1, h.2.2.1, h.2.2.2.1, fun z => absurd c2 z, so⟩) (fun c2 => Pc.k (fun _ => Pc.i (fun c3 => ?_) (fun c3 => go M hk ⟨h.1, h.2.1, h.2.2.1, h.2.2.2.1, fun _ => ⟨c3, fun c' hc' => by omega⟩, so⟩))))
      have hn := h.2.2.1 a ha2 c2
      refine Pc.m (pc_findSteps k8 (by rw [hbl.1]; exact h9) hn.1) (fun M34 r33 p => Pc.k (fun _ => Pc.b (fun M37 e37 => ?_)))
      obtain ⟨kf, hT⟩ := p
      have kf : KS (SFs a) M M34 := kf
      have hT : Tb k M r33 (fun c => rd M34 (110 + 20) (16 * a + c)) a := hT
      subst e37
      have kq : KS (fun c j => SFs a c j ∨ (c = 127 ∧ j = a)) M (wr M34 (110 + 17) a r33) := (kf.mono (fun c j h => Or.inl h)).wr (Or.inr ⟨rfl, rfl⟩)
      have bq : BL k M k (wr M34 (110 + 17) a r33) := BL.ks kq (fun c j h1 h2 z => by unfold SFs SPs at z; omega)
      have rq : ∀ b, rc (wr M34 (110 + 17) a r33) b ↔ rc M b := fun b => by
        unfold rc
        rw [kq _ _ (by unfold SFs SPs; omega)]
      have e17 : ∀ b, ¬ b = a → rd (wr M34 (110 + 17) a r33) (110 + 17) b = rd M (110 + 17) b := fun b hb => kq _ _ (by unfold SFs SPs; omega)
      have oq : ∀ b c, ¬ b = a → op (wr M34 (110 + 17) a r33) b c = op M b c := fun b c hb => by unfold op; rw [e17 b hb]
      refine go _ (hk.trans (kq.mono (fun c j h => ?_))) ⟨fun b hb hw => ?_, (rq m).mpr h.2.1, fun b hb hr => ?_, fun b hb hb2 hr => ?_, fun _ => ⟨?_, fun c' hc' => by omega⟩, fun b hb hr => ?_⟩
      · unfold SFs SPs at h
        unfold SRc SPs
        omega
      · rw [bq.bn] at hb
        by_cases e : b = a
        · subst e
          rw [rd_we]
          exact (hT.bl bq).gs (fun c _ => rd_wk (by decide))
        · rw [e17 b e] at hw ⊢
          refine ((h.1 b hb hw).bl bq).gs (fun c hc => kq _ _ ?_)
          rw [bq.bn] at hc
          have n8' := hbl.bn
          unfold SFs SPs; omega
      · rw [bq.bn]
        exact h.2.2.1 b hb ((rq b).mp hr)
      · have q := h.2.2.2.1 b hb hb2 ((rq b).mp hr)
        rw [e17 b (by omega)]
        refine ⟨q.1, fun c' hc' ho => (rq _).mpr (q.2 c' hc' ?_)⟩
        rw [oq b c' (by omega)] at ho; exact ho
      · rw [rd_we]; exact hT.ne (by rw [hbl.bn]; exact n8)
      · rcases h.2.2.2.2 b hb ((rq b).mp hr) with e | ⟨b', c', q1, q2, q3, q4, q5, q6⟩
        · exact Or.inl e
        · exact Or.inr ⟨b', c', by omega, q2, q3, (rq b').mpr q4, by rw [oq b' c' (by omega)]; exact q5, q6⟩
/-- at the begin one state alone is come to -/
theorem rs_init (hm : rd M0 k 13 = Int32.ofNat m) (m256 : m < 256) (k8 : k + 8 ≤ 112) (H : ∀ M, KS (fun c _ => c = 128) M0 M → (∀ b, b < 256 → (rc M b ↔ b = m)) → Pc (mX3_reachSets_l67 110 k 5000 (Int32.ofNat m) M) P) : ∀ (fuel i : Nat) (M : Mem), i ≤ 256 → KS (fun c _ => c = 128) M0 M → (∀ b, b < i → (rc M b ↔ b = m)) → Pc (mX3_reachSets_l30 110 k fuel (Int32.ofNat i) M) P := by
  intro fuel
  induction fuel with
  | zero => intro i M _ _ _ q e; cases e
  | succ fuel IH =>
    intro i M hi hk h
    show Pc (mX3_reachSets_b30 110 k (mX3_reachSets_l30 110 k fuel) (Int32.ofNat i) M) _
    unfold mX3_reachSets_b30
    have ti : (Int32.ofNat i).toInt = (i : Int) := t_of (by omega)
    have n256 : ((256 : Int32)).toInt = 256 := rfl
    have ci : (Int32.ofNat i).toNatClampNeg = i := c_of (by omega)
    have em : rd M k 13 = Int32.ofNat m := (hk k 13 (by omega)).trans hm
    rw [em]
    have put : ∀ v : Int32, (v = 0 ∨ v = 1) → (i < 256) → (¬ v = 0 ↔ i = m) → Pc (mX3_reachSets_b55 110 k (mX3_reachSets_l30 110 k fuel) (Int32.ofNat i) (Int32.ofNat i) v M) P := by
      intro v hv hi2 hvm
      unfold mX3_reachSets_b55
      have ev : vp_nar .boolean v = v := by rcases hv with rfl | rfl <;> decide
      rw [ci, ev]
      refine Pc.k (fun _ => Pc.b (fun M1 e1 => Pc.b (fun x ex => ?_)))
      have e : x = Int32.ofNat (i + 1) := by rw [ex]; exact (Int32.ofNat_add i 1).symm
      rw [e]
      subst e1
      refine IH (i + 1) _ (by omega) (hk.wr rfl) (fun b hb => ?_)
      unfold rc
      by_cases q : b = i
      · subst q; rw [rd_we]; exact hvm
      · rw [rd_wj q]; exact h b (by omega)
    refine Pc.i (fun c1 => ?_) (fun c1 => ?_)
    · have c1 := i_le.mp c1
      have e : i = 256 := by omega
      subst e
      exact Pc.b (fun x ex => by subst ex; exact H M hk h)
    · have c1 := i_nle c1
      refine Pc.i (fun c2 => put 1 (Or.inr rfl) (by omega) ⟨fun _ => o_inj (by omega) (by omega) c2, fun _ => by decide⟩) (fun c2 => put 0 (Or.inl rfl) (by omega) ⟨fun z => absurd rfl z, fun z => absurd (by rw [z]) c2⟩)
end RE
end
/-! part 60zze.like -/
section
/-! whether a part is like another: bends alike, goes on alike -/
def GL (k : Nat) (M : Mem) (k' : Nat) (M' : Mem) : Prop := rd M' k' 13 = rd M k 13 ∧ mX1_lastCode k' M' = mX1_lastCode k M ∧ mX1_lastGauge k' M' = mX1_lastGauge k M ∧ rd M' k' 7 = rd M k 7 ∧ rd M' k' 8 = rd M k 8 ∧ rd M' k' 9 = rd M k 9
section LK
variable {k k' k'' : Nat} {M M' M'' M0 : Mem} {m : Nat}
theorem GL.rf : GL k M k M := ⟨rfl, rfl, rfl, rfl, rfl, rfl⟩
theorem GL.sy (h : GL k M k' M') : GL k' M' k M := ⟨h.1.symm, h.2.1.symm, h.2.2.1.symm, h.2.2.2.1.symm, h.2.2.2.2.1.symm, h.2.2.2.2.2.symm⟩
theorem GL.tr (h : GL k M k' M') (h' : GL k' M' k'' M'') : GL k M k'' M'' := ⟨h'.1.trans h.1, h'.2.1.trans h.2.1, h'.2.2.1.trans h.2.2.1, h'.2.2.2.1.trans h.2.2.2.1, h'.2.2.2.2.1.trans h.2.2.2.2.1, h'.2.2.2.2.2.trans h.2.2.2.2.2⟩
theorem chk_congr {β : Type} {i : Int32} {n : Nat} {x y : Option β} (h : i.toNatClampNeg < n → x = y) : chk (okb i n) x = chk (okb i n) y := by
  unfold chk
  by_cases q : okb i n = true
  · rw [h (okb_lt q)]
  · rw [Bool.eq_false_iff.mpr q]; rfl
theorem last_eq (h14 : rd M' k' 14 = rd M k 14) (h5 : ∀ j, j < 8 → rd M' (k' + 5) j = rd M (k + 5) j) : mX1_lastCode k' M' = mX1_lastCode k M := by
  unfold mX1_lastCode
  rw [h14]
  unfold ite2
  split
  · rfl
  · exact chk_congr (fun hi => by rw [h5 _ hi])
theorem lastg_eq (h14 : rd M' k' 14 = rd M k 14) (h6 : ∀ j, j < 8 → rd M' (k' + 6) j = rd M (k + 6) j) : mX1_lastGauge k' M' = mX1_lastGauge k M := by
  unfold mX1_lastGauge
  rw [h14]
  unfold ite2
  split
  · rfl
  · exact chk_congr (fun hi => by rw [h6 _ hi])
theorem GL.ks {S : Nat → Nat → Prop} (hk : KS S M M') (hs : ∀ c j, k ≤ c → c < k + 8 → ¬ S c j) : GL k M k M' := by
  have e : ∀ c j, k ≤ c → c < k + 8 → rd M' c j = rd M c j := fun c j h1 h2 => hk c j (hs c j h1 h2)
  exact ⟨e _ _ (by omega) (by omega), last_eq (e _ _ (by omega) (by omega)) (fun j _ => e _ _ (by omega) (by omega)), lastg_eq (e _ _ (by omega) (by omega)) (fun j _ => e _ _ (by omega) (by omega)), e _ _ (by omega) (by omega), e _ _ (by omega) (by omega), e _ _ (by omega) (by omega)⟩
theorem pc_goesOn : Pc (mX1_goesOnLike k k' M) (fun r => ¬ r = 0 → GL k M k' M) := by
  unfold mX1_goesOnLike
  have no : Pc (some (0 : Int32)) (fun r => ¬ r = 0 → GL k M k' M) := Pc.ok (fun z => absurd rfl z)
  refine Pc.i (fun c1 => ?_) (fun _ => no)
  refine Pc.c (Pc.self _) (fun r3 e3 => Pc.c (Pc.self _) (fun r6 e6 => Pc.i (fun c2 => ?_) (fun _ => no)))
  refine Pc.c (Pc.self _) (fun r10 e10 => Pc.c (Pc.self _) (fun r13 e13 => Pc.i (fun c3 => ?_) (fun _ => no)))
  refine Pc.i (fun c4 => Pc.i (fun c5 => Pc.i (fun c6 => Pc.ok (fun _ => ?_)) (fun _ => no)) (fun _ => no)) (fun _ => no)
  subst c2
  subst c3
  exact ⟨c1.symm, e6.trans e3.symm, e13.trans e10.symm, c4.symm, c5.symm, c6.symm⟩
theorem pc_bendsL : Pc (mX1_bendsLike k k' M) (fun r => ¬ r = 0 → BL k M k' M) := by
  unfold mX1_bendsLike
  have no : Pc (some (0 : Int32)) (fun r => ¬ r = 0 → BL k M k' M) := Pc.ok (fun z => absurd rfl z)
  refine Pc.i (fun c1 => Pc.i (fun c2 => ?_) (fun _ => no)) (fun _ => no)
  have l65 : ∀ (fuel i : Nat), i ≤ 10 → (∀ j, j < i → rd M (k' + 2) j = rd M (k + 2) j) → Pc (mX1_bendsLike_l65 k k' M fuel (Int32.ofNat i)) (fun r => ¬ r = 0 → ∀ j, j < 10 → rd M (k' + 2) j = rd M (k + 2) j) := by
    intro fuel
    induction fuel with
    | zero => intro i _ _ q e; cases e
    | succ fuel IH =>
      intro i hi h
      show Pc (mX1_bendsLike_b65 k k' M (mX1_bendsLike_l65 k k' M fuel) (Int32.ofNat i)) _
      unfold mX1_bendsLike_b65
      have ti : (Int32.ofNat i).toInt = (i : Int) := t_of (by omega)
      have n10 : ((10 : Int32)).toInt = 10 := rfl
      refine Pc.i (fun c1 => Pc.ok (fun _ => ?_)) (fun c1 => Pc.k (fun _ => Pc.k (fun _ => Pc.i (fun c2 => ?_) (fun _ => Pc.ok (fun z => absurd rfl z)))))
      · have c1 := i_le.mp c1
        have e : i = 10 := by omega
        subst e; exact h
      · have c1 := i_nle c1
        rw [c_of (by omega)] at c2
        refine Pc.b (fun x ex => ?_)
        have e : x = Int32.ofNat (i + 1) := by rw [ex]; exact (Int32.ofNat_add i 1).symm
        rw [e]
        refine IH (i + 1) (by omega) (fun j hj => ?_)
        by_cases q : j = i
        · subst q; exact c2.symm
        · exact h j (by omega)
  have l26 : ∀ (fuel i : Nat), i ≤ 9 → (∀ j : Nat, j < i → (j : Int) < (rd M k 0).toInt → rd M (k' + 1) j = rd M (k + 1) j) → Pc (mX1_bendsLike_l26 k k' M fuel (Int32.ofNat i)) (fun r => ¬ r = 0 → BL k M k' M) := by
    intro fuel
    induction fuel with
    | zero => intro i _ _ q e; cases e
    | succ fuel IH =>
      intro i hi h
      show Pc (mX1_bendsLike_b26 k k' M (mX1_bendsLike_l26 k k' M fuel) (Int32.ofNat i)) _
      unfold mX1_bendsLike_b26
      have ti : (Int32.ofNat i).toInt = (i : Int) := t_of (by omega)
      have n9 : ((9 : Int32)).toInt = 9 := rfl
      have fin : (∀ j : Nat, j < 9 → (j : Int) < (rd M k 0).toInt → rd M (k' + 1) j = rd M (k + 1) j) → Pc (mX1_bendsLike_b63 k k' M) (fun r => ¬ r = 0 → BL k M k' M) := by
        intro hl
        unfold mX1_bendsLike_b63
        exact (l65 5000 0 (by omega) (fun j hj => by omega)).mono (fun r h2 hr => ⟨c1.symm, c2.symm, hl, h2 hr⟩)
      refine Pc.i (fun c1 => fin (fun j h9 hj => h j ?_ hj)) (fun c1 => Pc.i (fun c2 => fin (fun j h9 hj => h j ?_ hj)) (fun c2 => Pc.k (fun _ => Pc.k (fun _ => Pc.i (fun c3 => ?_) (fun _ => Pc.ok (fun z => absurd rfl z))))))
      · have c1 := i_le.mp c1
        omega
      · have c2 := i_le.mp c2
        omega
      · have c2 := i_nle c2
        rw [c_of (by omega)] at c3
        refine Pc.b (fun x ex => ?_)
        have e : x = Int32.ofNat (i + 1) := by rw [ex]; exact (Int32.ofNat_add i 1).symm
        rw [e]
        refine IH (i + 1) (by omega) (fun j hj hl => ?_)
        by_cases q : j = i
        · subst q; exact c3.symm
        · exact h j (by omega) hl
  exact l26 5000 0 (by omega) (fun j hj => by omega)
theorem pc_forget : Pc (mX3_forgetSteps 110 M) (fun q => KS (fun c _ => c = 127) M q.1 ∧ ∀ j, j < 256 → rd q.1 (110 + 17) j = -1) := by
  have key : ∀ (fuel i : Nat) (M1 : Mem), i ≤ 256 → KS (fun c _ => c = 127) M M1 → (∀ j, j < i → rd M1 (110 + 17) j = -1) → Pc (mX3_forgetSteps_l2 110 fuel (Int32.ofNat i) M1) (fun q => KS (fun c _ => c = 127) M q.1 ∧ ∀ j, j < 256 → rd q.1 (110 + 17) j = -1) := by
    intro fuel
    induction fuel with
    | zero => intro i _ _ _ _ q e; cases e
    | succ fuel IH =>
      intro i M1 hi hk h
      show Pc (mX3_forgetSteps_b2 110 (mX3_forgetSteps_l2 110 fuel) (Int32.ofNat i) M1) _
      unfold mX3_forgetSteps_b2
      have ti : (Int32.ofNat i).toInt = (i : Int) := t_of (by omega)
      have n256 : ((256 : Int32)).toInt = 256 := rfl
      refine Pc.i (fun c1 => Pc.ok ⟨hk, ?_⟩) (fun c1 => Pc.k (fun _ => Pc.b (fun M4 e4 => Pc.b (fun x ex => ?_))))
      · have c1 := i_le.mp c1
        have e : i = 256 := by omega
        subst e; exact h
      · have c1 := i_nle c1
        rw [c_of (by omega)] at e4
        have e : x = Int32.ofNat (i + 1) := by rw [ex]; exact (Int32.ofNat_add i 1).symm
        rw [e]
        subst e4
        refine IH (i + 1) _ (by omega) (hk.wr rfl) (fun j hj => ?_)
        by_cases q : j = i
        · subst q; exact rd_we
        · rw [rd_wj q]; exact h j (by omega)
  exact key 5000 0 M (by omega) KS.rf (fun j hj => by omega)
/-- what reaching the states writes -/
def SPr (c j : Nat) : Prop := (c = 110 ∧ j = 6) ∨ (112 ≤ c ∧ c ≤ 128) ∨ c = 130
theorem reach_b15 (k8 : k + 8 ≤ 110) (h9 : (rd M k 0).toInt ≤ 9) (hm : rd M k 13 = Int32.ofNat m) (hm2 : m < 2 ^ nb k M) (hT : TabK k M) : Pc (mX3_reachSets_b15 110 k M) (fun q => KS SPr M q.1 ∧ LI k m q.1 256 ∧ BL k M 119 q.1 ∧ GL k M 119 q.1 ∧ rd q.1 110 6 = 0) := by
  have n8 := nb8 h9
  have m256 := n_256 n8 hm2
  unfold mX3_reachSets_b15
  refine Pc.m (pc_copyFrom (k := 119) (k' := k) (M := M) (Or.inr (by omega))) (fun M7 _ p => Pc.b (fun M8 e8 => ?_))
  obtain ⟨c0, c1, c2, c3, c4⟩ := p
  have c4 : KS (fun c _ => 119 ≤ c ∧ c < 119 + 8) M M7 := c4
  have k8' : KS (fun c j => (119 ≤ c ∧ c < 119 + 8) ∨ (c = 110 ∧ j = 6)) M M8 := by rw [e8]; exact (c4.mono (fun c j h => Or.inl h)).wr (Or.inr ⟨rfl, rfl⟩)
  have hb8 : BL k M k M8 := BL.ks k8' (fun c j h1 h2 z => by omega)
  have e119 : ∀ c j, 119 ≤ c → c < 127 → rd M8 c j = rd M7 c j := fun c j h1 h2 => by rw [e8]; exact rd_wk (by omega)
  have b119 : BL k M 119 M8 := ⟨(e119 _ _ (by omega) (by omega)).trans (c0 0 (by omega) (by omega) (by omega) (by omega) (by omega)), (e119 _ _ (by omega) (by omega)).trans (c0 2 (by omega) (by omega) (by omega) (by omega) (by omega)), fun j h9 _ => (e119 _ _ (by omega) (by omega)).trans (c1 j h9), fun j hj => (e119 _ _ (by omega) (by omega)).trans (c2 j hj)⟩
  have g119 : GL k M 119 M8 := by
    refine ⟨(e119 _ _ (by omega) (by omega)).trans (c0 13 (by omega) (by omega) (by omega) (by omega) (by omega)), last_eq ((e119 _ _ (by omega) (by omega)).trans (c0 14 (by omega) (by omega) (by omega) (by omega) (by omega))) (fun j hj => (e119 _ _ (by omega) (by omega)).trans (c3 j hj).2.2.1), lastg_eq ((e119 _ _ (by omega) (by omega)).trans (c0 14 (by omega) (by omega) (by omega) (by omega) (by omega))) (fun j hj => (e119 _ _ (by omega) (by omega)).trans (c3 j hj).2.2.2.1), ?_, ?_, ?_⟩
    · exact (e119 _ _ (by omega) (by omega)).trans (c0 7 (by omega) (by omega) (by omega) (by omega) (by omega))
    · exact (e119 _ _ (by omega) (by omega)).trans (c0 8 (by omega) (by omega) (by omega) (by omega) (by omega))
    · exact (e119 _ _ (by omega) (by omega)).trans (c0 9 (by omega) (by omega) (by omega) (by omega) (by omega))
  have T8 : TabK k M8 := hT.bl hb8 (fun a => k8' _ _ (by omega)) (fun j => k8' _ _ (by omega))
  have m8 : rd M8 k 13 = Int32.ofNat m := (k8' _ _ (by omega)).trans hm
  have z8 : rd M8 110 6 = 0 := by rw [e8]; exact rd_we
  refine rs_init (M0 := M8) m8 m256 (by omega) (fun M9 k9 h9' => ?_) 5000 0 M8 (by omega) KS.rf (fun b hb => by omega)
  have hb9 : BL k M8 k M9 := BL.ks k9 (fun c j h1 h2 z => by omega)
  have en : nb k M9 = nb k M := hb9.bn.trans hb8.bn
  have hL : LI k m M9 m := by
    refine ⟨T8.bl hb9 (fun a => k9 _ _ (by omega)) (fun j => k9 _ _ (by omega)), (h9' m m256).mpr rfl, fun b hb hr => ?_, fun b hb h2 hr => ?_, fun b hb hr => Or.inl ((h9' b hb).mp hr)⟩
    · rw [(h9' b hb).mp hr, en]
      exact ⟨hm2, Nat.and_self m⟩
    · have := (h9' b h2).mp hr
      omega
  refine (rs_out (M0 := M9) (by rw [en]; exact n8) (by rw [hb9.1, hb8.1]; exact h9) (by omega) 5000 m M9 (by omega) KS.rf hL).mono (fun q h => ?_)
  have kq : KS SRc M9 q.1 := h.1
  have kx : KS (fun c j => c = 128 ∨ SRc c j) M8 q.1 := (k9.mono (fun c j h => Or.inl h)).trans (kq.mono (fun c j h => Or.inr h))
  refine ⟨?_, h.2, b119.tr (BL.ks kx (fun c j h1 h2 z => by unfold SRc SPs at z; omega)), g119.tr (GL.ks kx (fun c j h1 h2 z => by unfold SRc SPs at z; omega)), (kx _ _ (by unfold SRc SPs; omega)).trans z8⟩
  refine (k8'.mono (fun c j h => ?_)).trans (kx.mono (fun c j h => ?_))
  · unfold SPr; omega
  · unfold SRc SPs at h
    unfold SPr; omega
theorem pc_reachSets (k8 : k + 8 ≤ 110) (h9 : (rd M k 0).toInt ≤ 9) (hm : rd M k 13 = Int32.ofNat m) (hm2 : m < 2 ^ nb k M) (hT : TabK 119 M) : Pc (mX3_reachSets 110 k M) (fun q => KS SPr M q.1 ∧ LI k m q.1 256 ∧ BL k M 119 q.1 ∧ GL k M 119 q.1 ∧ rd q.1 110 6 = 0) := by
  unfold mX3_reachSets
  refine Pc.c pc_bendsL (fun r2 p2 => Pc.i (fun c => ?_) (fun c => ?_))
  · refine Pc.m pc_forget (fun M45 _ p => ?_)
    obtain ⟨kf, hf⟩ := p
    have kf : KS (fun c _ => c = 127) M M45 := kf
    have hb : BL k M k M45 := BL.ks kf (fun c j h1 h2 z => by omega)
    have hg : GL k M k M45 := GL.ks kf (fun c j h1 h2 z => by omega)
    have n8 := nb8 h9
    refine (reach_b15 (m := m) k8 (by rw [hb.1]; exact h9) (by rw [hg.1]; exact hm) (by rw [hb.bn]; exact hm2) (fun a ha hw => absurd (hf a (n_256 (by rw [hb.bn]; exact n8) ha)) hw)).mono (fun q h => ?_)
    exact ⟨(kf.mono (fun c j h => by unfold SPr; omega)).trans h.1, h.2.1, hb.tr h.2.2.1, hg.tr h.2.2.2.1, h.2.2.2.2⟩
  · exact reach_b15 k8 h9 hm hm2 (hT.bl (p2 c).sy (fun _ => rfl) (fun _ => rfl))
end LK
end
/-! part 60zzf.count -/
section
/-! the class counts the orders, reckons the costs -/
def csum (x0 : Int64) (o : Nat → Bool) (t : Nat → Int64) : Nat → Int64
  | 0 => x0
  | c + 1 => if o c = true then csum x0 o t c + t c else csum x0 o t c
def CN (k : Nat) (M : Mem) : Prop := ∀ a, a < 256 → rc M a → rl M (110 + 19) a = csum (if a = 2 ^ nb k M - 1 then 1 else 0) (op M a) (fun c => rl M (110 + 19) (a ||| 2 ^ (c / 2))) 16
section CT
variable {k k' m : Nat} {M M' M0 : Mem} {a b c : Nat}
theorem csum_eq {x0 : Int64} {o o' : Nat → Bool} {t t' : Nat → Int64} : ∀ n, (∀ c, c < n → o' c = o c) → (∀ c, c < n → o c = true → t' c = t c) → csum x0 o' t' n = csum x0 o t n := by
  intro n
  induction n with
  | zero => intro _ _; rfl
  | succ n IH =>
    intro h1 h2
    show (if o' n = true then csum x0 o' t' n + t' n else csum x0 o' t' n) = (if o n = true then csum x0 o t n + t n else csum x0 o t n)
    rw [h1 n (by omega), IH (fun c hc => h1 c (by omega)) (fun c hc => h2 c (by omega))]
    by_cases q : o n = true
    · rw [if_pos q, if_pos q, h2 n (by omega) q]
    · rw [if_neg q, if_neg q]
/-- a step from a state that is come to -/
theorem LI.step (h : LI k m M 256) (n8 : nb k M ≤ 8) (ha : a < 256) (hr : rc M a) (hc : c < 16) (ho : op M a c = true) : c < 2 * nb k M ∧ a.testBit (c / 2) = false ∧ a < (a ||| 2 ^ (c / 2)) ∧ (a ||| 2 ^ (c / 2)) < 2 ^ nb k M ∧ (a ||| 2 ^ (c / 2)) < 256 ∧ rc M (a ||| 2 ^ (c / 2)) := by
  have hn := h.2.2.1 a ha hr
  have hq := h.2.2.2.1 a ha ha hr
  have hT := h.1 a hn.1 hq.1
  have hc2 : c < 2 * nb k M := by
    by_cases q : c < 2 * nb k M
    · exact q
    · exact absurd (hT.2 c (by omega)) (by unfold op at ho; rw [ho]; decide)
  have hb := ((hT.1 c hc2).1 ho).2.2
  have hz := z_set (nb k M) (by omega) a hn.1 (c / 2) (by omega) hb
  exact ⟨hc2, hb, hz.2.1, hz.2.2.1, n_256 n8 hz.2.2.1, hq.2 c hc ho⟩
theorem LI.full (h : LI k m M 256) (n8 : nb k M ≤ 8) (ha : a < 256) (hr : rc M a) (hc : c < 16) (ho : op M a c = true) : a ≠ 2 ^ nb k M - 1 := by
  have q := h.step n8 ha hr hc ho
  omega
theorem pc_allB (h9 : (rd M k 0).toInt ≤ 9) : Pc (mX1_allBends k M) (fun r => r = Int32.ofNat (2 ^ nb k M - 1)) := by
  unfold mX1_allBends
  refine Pc.c (pc_bends h9) (fun r e => Pc.ok ?_)
  have n8 := nb8 h9
  subst e
  exact f_full (nb k M) (by omega)
theorem co_in (n8 : nb k M0 ≤ 8) (hL : LI k m M0 256) (ha : a < 256) {P : Mem × Unit → Prop} {x2 : Int32} {ih9 : Int32 → Int32 → Mem → Option (Mem × Unit)} (x0 : Int64)
    (H : ∀ M, (∀ c j, rd M c j = rd M0 c j) → (∀ b, a < b → rl M (110 + 19) b = rl M0 (110 + 19) b) → (rc M0 a → rl M (110 + 19) a = csum x0 (op M0 a) (fun c => rl M0 (110 + 19) (a ||| 2 ^ (c / 2))) 16) → Pc (ih9 x2 (Int32.ofNat a + (-1 : Int32)) M) P) :
    ∀ (fuel c : Nat) (M : Mem), c ≤ 16 → (∀ c j, rd M c j = rd M0 c j) → (∀ b, a < b → rl M (110 + 19) b = rl M0 (110 + 19) b) → (rc M0 a → rl M (110 + 19) a = csum x0 (op M0 a) (fun c => rl M0 (110 + 19) (a ||| 2 ^ (c / 2))) c) → Pc (mX3_countOrders_l32 110 k ih9 fuel x2 (Int32.ofNat a) (Int32.ofNat c) M) P := by
  intro fuel
  induction fuel with
  | zero => intro c M _ _ _ _ q e; cases e
  | succ fuel IH =>
    intro c M hc hk hl hs
    show Pc (mX3_countOrders_b32 110 k ih9 (mX3_countOrders_l32 110 k ih9 fuel) x2 (Int32.ofNat a) (Int32.ofNat c) M) _
    unfold mX3_countOrders_b32
    have tc : (Int32.ofNat c).toInt = (c : Int) := t_of (by omega)
    have n16 : ((16 : Int32)).toInt = 16 := rfl
    have ca : (Int32.ofNat a).toNatClampNeg = a := c_of (by omega)
    refine Pc.i (fun c1 => ?_) (fun c1 => ?_)
    · have c1 := i_le.mp c1
      have e : c = 16 := by omega
      subst e
      exact Pc.b (fun x ex => by subst ex; exact H M hk hl hs)
    · have c1 := i_nle c1
      have hc16 : c < 16 := by omega
      have eo : op M a c = op M0 a c := by unfold op; rw [hk]
      have er : rc M a ↔ rc M0 a := by unfold rc; rw [hk]
      have next : ∀ M', (∀ c j, rd M' c j = rd M0 c j) → (∀ b, a < b → rl M' (110 + 19) b = rl M0 (110 + 19) b) → (rc M0 a → rl M' (110 + 19) a = csum x0 (op M0 a) (fun c => rl M0 (110 + 19) (a ||| 2 ^ (c / 2))) (c + 1)) → Pc (mX3_countOrders_b78 110 k ih9 (mX3_countOrders_l32 110 k ih9 fuel) x2 (Int32.ofNat a) (Int32.ofNat c) M') P := by
        intro M' h1 h2 h3
        unfold mX3_countOrders_b78
        refine Pc.b (fun x ex => ?_)
        have e : x = Int32.ofNat (c + 1) := by rw [ex]; exact (Int32.ofNat_add c 1).symm
        rw [e]
        exact IH (c + 1) M' (by omega) h1 h2 h3
      rw [ca, pc_isOpen ha hc16, pc_setBehind ha hc16]
      refine Pc.k (fun _ => Pc.i (fun c2 => next M hk hl (fun z => absurd c2 (er.mpr z))) (fun c2 => ?_))
      have hr := er.mp c2
      refine Pc.c (Pc.ok (P := fun r => r = if op M a c = true then 1 else 0) rfl) (fun r21 e21 => Pc.i (fun c3 => next M hk hl (fun _ => ?_)) (fun c3 => ?_))
      · have ho : ¬ op M0 a c = true := fun z => by
          rw [eo, if_pos z] at e21
          rw [e21] at c3; exact absurd c3 (by decide)
        show _ = if op M0 a c = true then _ else _
        rw [if_neg ho]; exact hs hr
      · have ho : op M0 a c = true := by
          by_cases q : op M0 a c = true
          · exact q
          · rw [eo, if_neg q] at e21; exact absurd e21 c3
        have st := hL.step n8 ha hr hc16 ho
        refine Pc.k (fun _ => Pc.c (Pc.ok (P := fun r => r = Int32.ofNat (a ||| 2 ^ (c / 2))) rfl) (fun r25 e25 => Pc.k (fun _ => Pc.k (fun _ => Pc.b (fun M29 e29 => ?_)))))
        rw [e25, c_of (by omega)] at e29
        subst e29
        refine next _ hk (fun b hb => (rl_wj (by omega)).trans (hl b hb)) (fun _ => ?_)
        show _ = if op M0 a c = true then _ else _
        rw [if_pos ho, rl_we, hs hr, hl _ st.2.2.1]
theorem co_out (n8 : nb k M0 ≤ 8) (hL : LI k m M0 256) : ∀ (fuel a : Nat) (x : Int32) (M : Mem), x.toInt = (a : Int) - 1 → a ≤ 256 → (∀ c j, rd M c j = rd M0 c j) → (∀ b, a ≤ b → b < 256 → rc M0 b → rl M (110 + 19) b = csum (if b = 2 ^ nb k M0 - 1 then 1 else 0) (op M0 b) (fun c => rl M (110 + 19) (b ||| 2 ^ (c / 2))) 16) → Pc (mX3_countOrders_l9 110 k fuel (Int32.ofNat (2 ^ nb k M0 - 1)) x M) (fun q => (∀ c j, rd q.1 c j = rd M0 c j) ∧ CN k q.1) := by
  have p2 : 2 ^ nb k M0 ≤ 256 := by
    have : 2 ^ nb k M0 ≤ 2 ^ 8 := Nat.pow_le_pow_right (by decide) n8
    have h8 : (2 : Nat) ^ 8 = 256 := rfl
    omega
  intro fuel
  induction fuel with
  | zero => intro a x M _ _ _ _ q e; cases e
  | succ fuel IH =>
    intro a x M hx ha hk h
    show Pc (mX3_countOrders_b9 110 k (mX3_countOrders_l9 110 k fuel) (Int32.ofNat (2 ^ nb k M0 - 1)) x M) _
    unfold mX3_countOrders_b9
    have n0 : ((0 : Int32)).toInt = 0 := rfl
    refine Pc.i (fun c => ?_) (fun c => ?_)
    · have c := i_lt.mp c
      have e : a = 0 := by omega
      subst e
      refine Pc.ok ⟨hk, fun b hb hr => ?_⟩
      have en : nb k M = nb k M0 := by unfold nb; rw [hk]
      have eo : op M b = op M0 b := by funext c; unfold op; rw [hk]
      have er : rc M0 b := by unfold rc; rw [← hk]; exact hr
      rw [en, eo]
      exact h b (by omega) hb er
    · have c := i_nlt c
      obtain ⟨b, rfl⟩ : ∃ b, a = b + 1 := ⟨a - 1, by omega⟩
      have ex : x = Int32.ofNat b := by
        rw [o_of (x := x) (by omega)]; congr 1; omega
      subst ex
      have cb : (Int32.ofNat b).toNatClampNeg = b := c_of (by omega)
      have go : ∀ v : Int64, (v = if b = 2 ^ nb k M0 - 1 then 1 else 0) → Pc (mX3_countOrders_b28 110 k (mX3_countOrders_l9 110 k fuel) (Int32.ofNat (2 ^ nb k M0 - 1)) (Int32.ofNat b) (Int32.ofNat b) v M) (fun q => (∀ c j, rd q.1 c j = rd M0 c j) ∧ CN k q.1) := by
        intro v hv
        unfold mX3_countOrders_b28
        rw [cb]
        refine Pc.k (fun _ => Pc.b (fun M8 e8 => ?_))
        have k8 : ∀ c j, rd M8 c j = rd M0 c j := fun c j => by rw [e8]; exact hk c j
        have l8 : ∀ b', ¬ b' = b → rl M8 (110 + 19) b' = rl M (110 + 19) b' := fun b' hb' => by rw [e8]; exact rl_wj hb'
        have hL8 : LI k m M8 256 := by
          obtain ⟨h1, h2, h3, h4, h5⟩ := hL
          have en : nb k M8 = nb k M0 := by unfold nb; rw [k8]
          have eo : op M8 = op M0 := by funext a c; unfold op; rw [k8]
          have er : rc M8 = rc M0 := by funext a; unfold rc; rw [k8]
          refine ⟨h1.bl ⟨k8 _ _, k8 _ _, fun _ _ _ => k8 _ _, fun _ _ => k8 _ _⟩ (fun _ => k8 _ _) (fun _ => k8 _ _), ?_, ?_, ?_, ?_⟩
          · rw [er]; exact h2
          · rw [er, en]; exact h3
          · intro b'; rw [er, eo, k8]; exact h4 b'
          · rw [er, eo]; exact h5
        have n8' : nb k M8 ≤ 8 := by have en : nb k M8 = nb k M0 := by unfold nb; rw [k8]
                                     omega
        refine co_in (M0 := M8) n8' hL8 (by omega) v (fun M2 q1 q2 q3 => ?_) 5000 0 M8 (by omega) (fun _ _ => rfl) (fun _ _ => rfl) (fun _ => by rw [e8, rl_we]; rfl)
        have eo : op M8 = op M0 := by funext a c; unfold op; rw [k8]
        have er : rc M8 = rc M0 := by funext a; unfold rc; rw [k8]
        rw [eo, er] at q3
        refine IH b _ M2 (by rw [i_add (by rw [t_of (by omega), show ((-1 : Int32)).toInt = -1 from rfl]; omega) (by rw [t_of (by omega), show ((-1 : Int32)).toInt = -1 from rfl]; omega), t_of (by omega), show ((-1 : Int32)).toInt = -1 from rfl]; omega) (by omega) (fun c j => (q1 c j).trans (k8 c j)) (fun b' hb1 hb2 hr => ?_)
        have hst : ∀ c, c < 16 → op M0 b' c = true → b' < (b' ||| 2 ^ (c / 2)) := fun c hc ho => (hL.step n8 hb2 hr hc ho).2.2.1
        by_cases e : b' = b
        · subst e
          rw [q3 hr, hv]
          refine csum_eq 16 (fun _ _ => rfl) (fun c hc ho => ?_)
          exact (q2 _ (hst c hc ho)).symm
        · rw [q2 b' (by omega), l8 b' e, h b' (by omega) hb2 hr]
          refine csum_eq 16 (fun _ _ => rfl) (fun c hc ho => ?_)
          have := hst c hc ho
          show rl M (110 + 19) (b' ||| 2 ^ (c / 2)) = rl M2 (110 + 19) (b' ||| 2 ^ (c / 2))
          rw [q2 _ (by omega), l8 _ (by omega)]
      refine Pc.i (fun c2 => go 1 ?_) (fun c2 => go 0 ?_)
      · have e : b = 2 ^ nb k M0 - 1 := o_inj (by omega) (by omega) c2
        rw [if_pos e]
      · rw [if_neg (fun e => c2 (by rw [e]))]
theorem pc_countOrders (h9 : (rd M k 0).toInt ≤ 9) (hL : LI k m M 256) : Pc (mX3_countOrders 110 k M) (fun q => (∀ c j, rd q.1 c j = rd M c j) ∧ CN k q.1) := by
  unfold mX3_countOrders
  refine Pc.c (pc_allB h9) (fun r e => ?_)
  subst e
  exact co_out (nb8 h9) hL 5000 256 255 M (by decide) (by omega) (fun _ _ => rfl) (fun b hb h2 => by omega)
end CT
end
