/-! why a step is refused: the same reason -/
section WY
variable {M N M0 N0 : Mem} {k k1 b s a n : Nat}
def WyR (k b s : Nat) (M N : Mem) (p q : Mem × Int32) : Prop := p.2 = q.2 ∧ KS (SPs k) M p.1 ∧ KS SRl N q.1 ∧ (p.2 = 0 → SH k b s p.1 q.1)
theorem PR.sps {f : Nat → Int32} {M' : Mem} (h : PR k1 M f) (hd8 : k1 + 8 ≤ k) (hk : KS (SPs k) M M') : PR k1 M' f := h.ks hk (fun c j h1 h2 z => by unfold SPs at z; omega)
theorem PB.sps {f : Nat → Int32} {M' : Mem} (h : PB k1 M f) (hd8 : k1 + 8 ≤ k) (hk : KS (SPs k) M M') : PB k1 M' f := h.ks hk (fun c j h1 h2 z => by unfold SPs at z; omega)
theorem row_srl {N' : Mem} (hk : KS SRl N N') : row 136 N' = row 136 N := row_ks hk (fun j z => by unfold SRl at z; omega)
/-- behind the laying -/
theorem why_in (hd8 : k1 + 8 ≤ k) (hP : PB k1 M (row 136 N)) (l1 : (rd N 136 1).toInt = (n : Int) + 1) (n8 : n ≤ 8) (hb : b < n) (hs : s < 2) (h : SH k b s M N) :
    R2 (cap (mX2_reachToBack k M) (fun r13 => chk (okb (6 : Int32) 10) (ite2 (r13 < (rd M (k1 + 2) ((6 : Int32)).toNatClampNeg)) (some (M, (3 : Int32))) (chk (okb (7 : Int32) 10) (ite2 (r13 ≤ (rd M (k1 + 2) ((7 : Int32)).toNatClampNeg)) (cap (mX2_legsHitting k k1 M) (fun r20 => bnd ((((2 : Int32) <<< ((rd M k 8) &&& 31)) - ((1 : Int32) <<< ((rd M k 7) &&& 31)))) (fun x8_123 => ite2 ((r20 &&& x8_123) = 0) (ite2 (r20 = 0) (cap (mX2_crossesItself k M) (fun r26 => ite2 (r26 = 0) (some (M, (0 : Int32))) (some (M, (6 : Int32))))) (some (M, (5 : Int32)))) (some (M, (4 : Int32)))))) (some (M, (3 : Int32))))))))
      (cap (mX7_isGaugeLaid 135 (Int32.ofNat b) (Int32.ofNat s) N) (fun r13 => ite2 (r13 = 0) (some (N, (3 : Int32))) (cap (mX7_hittingLaid 135 (Int32.ofNat b) (Int32.ofNat s) (1 : Int32) (0 : Int32) N) (fun r17 => ite2 (r17 = 0) (cap (mX7_hittingLaid 135 (Int32.ofNat b) (Int32.ofNat s) (0 : Int32) (1 : Int32) N) (fun r21 => ite2 (r21 = 0) (cap (mX7_isCrossed 135 N) (fun r25 => ite2 (r25 = 0) (some (N, (0 : Int32))) (some (N, (6 : Int32))))) (some (N, (5 : Int32))))) (some (N, (4 : Int32)))))))
      (fun p q => p.2 = q.2 ∧ p.1 = M ∧ q.1 = N) := by
  have h9 : (rd N 136 1).toInt ≤ 9 := by omega
  have h0 : 0 ≤ (rd N 136 1).toInt := by omega
  have z6 : rd M (k1 + 2) ((6 : Int32)).toNatClampNeg = rd N 136 45 := hP.tl 6 (by decide)
  have z7 : rd M (k1 + 2) ((7 : Int32)).toNatClampNeg = rd N 136 46 := hP.tl 7 (by decide)
  rw [z6, z7]
  unfold mX7_isGaugeLaid
  simp only [cap_cap]
  refine R2.cc (gauge_R h (by omega) hs h9) (fun g g' eg => ?_)
  have eg : g = g' := eg
  subst eg
  refine R2.cr (pc_toolOf (i := 45) (by decide)) (fun t6 e6 => ?_)
  refine R2.cr (pc_toolOf (i := 46) (by decide)) (fun t7 e7 => ?_)
  rw [e6, e7]
  refine R2.cr (pc_btw (Int32.toInt_toInt64 _) (Int32.toInt_toInt64 _) (Int32.toInt_toInt64 _)) (fun r p => ?_)
  have three : r = 0 → R2 (some (M, (3 : Int32))) (cap (chk (isB r) (some r)) (fun r13 => ite2 (r13 = 0) (some (N, (3 : Int32))) (cap (mX7_hittingLaid 135 (Int32.ofNat b) (Int32.ofNat s) (1 : Int32) (0 : Int32) N) (fun r17 => ite2 (r17 = 0) (cap (mX7_hittingLaid 135 (Int32.ofNat b) (Int32.ofNat s) (0 : Int32) (1 : Int32) N) (fun r21 => ite2 (r21 = 0) (cap (mX7_isCrossed 135 N) (fun r25 => ite2 (r25 = 0) (some (N, (0 : Int32))) (some (N, (6 : Int32))))) (some (N, (5 : Int32))))) (some (N, (4 : Int32))))))) (fun p q : Mem × Int32 => p.2 = q.2 ∧ p.1 = M ∧ q.1 = N) := by
    intro e
    subst e
    refine R2.cr (Q := fun r => r = 0) (Pc.k (fun _ => Pc.ok rfl)) (fun r e => R2.ir (fun _ => R2.ok ⟨rfl, rfl, rfl⟩) (fun z => absurd e z))
  refine R2.kl (fun _ => R2.il (fun c => three ?_) (fun c => R2.kl (fun _ => R2.il (fun c2 => ?_) (fun c2 => three ?_))))
  · have c := i_lt.mp c
    rcases p with ⟨_, q, _⟩ | ⟨e, _⟩
    · exfalso; omega
    · exact e
  rotate_left
  · have c2 := i_nle c2
    rcases p with ⟨_, _, q⟩ | ⟨e, _⟩
    · exfalso; omega
    · exact e
  have c := i_nlt c
  have c2 := i_le.mp c2
  have e1 : r = 1 := by
    rcases p with ⟨e, _⟩ | ⟨_, q⟩
    · exact e
    · exact absurd ⟨c, c2⟩ q
  subst e1
  refine R2.cr (Q := fun r => r = 1) (Pc.k (fun _ => Pc.ok rfl)) (fun r e => R2.ir (fun z => absurd (e.symm.trans z) (by decide)) (fun _ => ?_))
  refine R2.cl (pc_hitC h h0 h9 hP.tl) (fun r20 p20 => R2.bl (fun x8 ex8 => R2.cr (pc_hitR (b := b) (s := s) (c := 1) (fr := 0) (by omega) hs h0 h9) (fun r17 p17 => ?_)))
  obtain ⟨m, em, hm, bm⟩ := p20
  obtain ⟨m1, em1, hm1, bm1⟩ := p17
  have L9 : (rd N 136 1).toInt.toNat ≤ 9 := by omega
  have p9 : 2 ^ (rd N 136 1).toInt.toNat ≤ 512 := Nat.pow_le_pow_right (n := 2) (by decide) L9
  have hcb : ∃ cb : Nat, cb < 512 ∧ x8 = Int32.ofNat cb ∧ ∀ j, j < (rd N 136 1).toInt.toNat → (cb.testBit j = true ↔ clm b s j) := by
    have s7 := h.2.2.1; have s8 := h.2.2.2
    have hs2 : s = 0 ∨ s = 1 := by omega
    rcases hs2 with rfl | rfl
    · rw [if_pos rfl] at s7 s8
      have d7 : rd M k 7 = 0 := i_eq.mpr s7
      have d8 : rd M k 8 = Int32.ofNat b := by rw [i_eq, s8, t_of (by omega)]
      obtain ⟨cb, q1, q2, q3⟩ := clm_bits0 b (by omega)
      refine ⟨cb, q1, by rw [ex8, d7, d8]; exact q2, fun j hj => ?_⟩
      rw [q3 j (by omega)]
      unfold clm
      rw [if_pos rfl]
      exact decide_eq_true_iff
    · rw [if_neg (by decide)] at s7 s8
      have d7 : rd M k 7 = Int32.ofNat (b + 1) := by rw [i_eq, s7, t_of (by omega)]; omega
      have d8 : rd M k 8 = Int32.ofNat ((rd N 136 1).toInt.toNat - 1) := by rw [i_eq, s8, t_of (by omega)]; omega
      obtain ⟨cb, q1, q2, q3⟩ := clm_bits1 b (by omega) (rd N 136 1).toInt.toNat (by omega) (by omega)
      refine ⟨cb, q1, by rw [ex8, d7, d8]; exact q2, fun j hj => ?_⟩
      rw [q3 j hj]
      unfold clm
      rw [if_neg (by decide)]
      exact decide_eq_true_iff
  obtain ⟨cb, hcb, ecb, bcb⟩ := hcb
  have and0 : (r20 &&& x8) = 0 ↔ m &&& cb = 0 := by
    rw [em, ecb, o_and9 (by omega) hcb]
    have : m &&& cb ≤ m := Nat.and_le_left
    exact of_0 (by omega)
  have mcl : m &&& cb < 2 ^ (rd N 136 1).toInt.toNat := Nat.lt_of_le_of_lt Nat.and_le_left hm
  have A : ¬ (r20 &&& x8) = 0 ↔ ∃ i, i < (rd N 136 1).toInt.toNat ∧ clm b s i ∧ HB N i := by
    rw [not_congr and0, nz_bits mcl]
    constructor
    · rintro ⟨i, hi, q⟩
      rw [Nat.testBit_and, Bool.and_eq_true] at q
      have c1 := (bcb i hi).mp q.2
      refine ⟨i, hi, c1, ?_⟩
      rcases (bm i hi).mp q.1 with z | z
      · exact z
      · exact absurd c1 z.1
    · rintro ⟨i, hi, c1, hB⟩
      refine ⟨i, hi, ?_⟩
      rw [Nat.testBit_and, Bool.and_eq_true]
      exact ⟨(bm i hi).mpr (Or.inl hB), (bcb i hi).mpr c1⟩
  have B : ¬ r17 = 0 ↔ ∃ i, i < (rd N 136 1).toInt.toNat ∧ clm b s i ∧ HB N i := by
    rw [em1, not_congr (of_0 (by omega)), nz_bits hm1]
    constructor
    · rintro ⟨i, hi, q⟩
      rcases (bm1 i hi).mp q with z | z
      · exact ⟨i, hi, z.1, z.2.2⟩
      · exact absurd rfl z.2.1
    · rintro ⟨i, hi, c1, hB⟩
      exact ⟨i, hi, (bm1 i hi).mpr (Or.inl ⟨c1, by decide, hB⟩)⟩
  have AB : (r20 &&& x8) = 0 ↔ r17 = 0 := Decidable.not_iff_not.mp (A.trans B.symm)
  refine R2.il (fun d => R2.ir (fun _ => ?_) (fun z => absurd (AB.mp d) z)) (fun d => R2.ir (fun z => absurd (AB.mpr z) d) (fun _ => R2.ok ⟨rfl, rfl, rfl⟩))
  refine R2.cr (pc_hitR (b := b) (s := s) (c := 0) (fr := 1) (by omega) hs h0 h9) (fun r21 p21 => ?_)
  obtain ⟨m2, em2, hm2, bm2⟩ := p21
  have C : ¬ r20 = 0 ↔ ¬ r21 = 0 := by
    rw [em, em2, not_congr (of_0 (by omega)), not_congr (of_0 (by omega)), nz_bits hm, nz_bits hm2]
    have nA : ¬ ∃ i, i < (rd N 136 1).toInt.toNat ∧ clm b s i ∧ HB N i := fun z => (A.mpr z) d
    constructor
    · rintro ⟨i, hi, q⟩
      refine ⟨i, hi, (bm2 i hi).mpr (Or.inr ?_)⟩
      rcases (bm i hi).mp q with z | z
      · exact ⟨fun c1 => nA ⟨i, hi, c1, z⟩, by decide, Or.inl z⟩
      · exact ⟨z.1, by decide, Or.inr z.2⟩
    · rintro ⟨i, hi, q⟩
      refine ⟨i, hi, (bm i hi).mpr ?_⟩
      rcases (bm2 i hi).mp q with z | z
      · exact absurd rfl z.2.1
      · rcases z.2.2 with y | y
        · exact Or.inl y
        · exact Or.inr ⟨z.1, y⟩
  have C' : r20 = 0 ↔ r21 = 0 := Decidable.not_iff_not.mp C
  refine R2.il (fun d2 => R2.ir (fun _ => ?_) (fun z => absurd (C'.mp d2) z)) (fun d2 => R2.ir (fun z => absurd (C'.mpr z) d2) (fun _ => R2.ok ⟨rfl, rfl, rfl⟩))
  refine R2.cl (pc_crsC h.1 h.2.1 h0 h9) (fun x px => R2.cr (pc_crsR h0 h9) (fun y py => ?_))
  rcases px with ⟨rfl, px⟩ | ⟨rfl, px⟩ <;> rcases py with ⟨rfl, py⟩ | ⟨rfl, py⟩
  · exact R2.il (fun z => absurd z (by decide)) (fun _ => R2.ir (fun z => absurd z (by decide)) (fun _ => R2.ok ⟨rfl, rfl, rfl⟩))
  · exact absurd px py
  · exact absurd py px
  · exact R2.il (fun _ => R2.ir (fun _ => R2.ok ⟨rfl, rfl, rfl⟩) (fun z => absurd rfl z)) (fun z => absurd rfl z)
end WY
