/-! the reason of a step -/
section RR
variable {M N : Mem} {k k1 b s a n : Nat}
theorem reason_B (hd8 : k1 + 8 ≤ k) (hP : PB k1 M (row 136 N)) (hn : (rd N 136 0).toInt = (n : Int)) (hb : b < n) (hs : s < 2) (ha : a < 2 ^ n) :
    R2 (mX2_reasonFor k k1 (Int32.ofNat a) (Int32.ofNat (2 * b + s)) M) (mX7_reasonOf 135 (Int32.ofNat b) (Int32.ofNat s) (Int32.ofNat a) N) (WyR k b s M N) := by
  have n8 : n ≤ 8 := by have := hP.n8; have e : (row 136 N 0).toInt = (n : Int) := hn; omega
  have l1 : (rd N 136 1).toInt = (n : Int) + 1 := by
    have e : (row 136 N 0).toInt = (n : Int) := hn
    have h1 := hP.nn
    have h2 := hP.lb
    have e1 : (row 136 N 1).toInt = (rd N 136 1).toInt := rfl
    rw [e, e1] at h1
    rw [e1] at h2
    split at h1 <;> omega
  have a256 : a < 256 := by
    have : 2 ^ n ≤ 2 ^ 8 := Nat.pow_le_pow_right (by decide) n8
    have h8 : (2 : Nat) ^ 8 = 256 := rfl
    omega
  have tb : (Int32.ofNat b).toInt = (b : Int) := t_of (by omega)
  have hf0 := f_has0 a a256 b (by omega)
  have hf1 := f_has a a256 b (by omega)
  -- behind the bend
  have go : ∀ fl : Nat, fl = (if s = 0 then b + 1 else b) → R2 (mX2_reasonFor_b20 k k1 (Int32.ofNat a) (Int32.ofNat (2 * b + s)) (Int32.ofNat b) (Int32.ofNat fl) M) (mX7_reasonOf 135 (Int32.ofNat b) (Int32.ofNat s) (Int32.ofNat a) N) (WyR k b s M N) := by
    intro fl hfl
    have fl9 : fl < 9 := by rw [hfl]; split <;> omega
    have flL : (fl : Int) < (rd N 136 1).toInt := by rw [hfl]; split <;> omega
    have tf : (Int32.ofNat fl).toInt = (fl : Int) := t_of (by omega)
    have cf := c_of (a := fl) (by omega)
    unfold mX2_reasonFor_b20 mX7_reasonOf mX7_has
    refine R2.il (fun c => ?_) (fun c => ?_)
    · have tz := hf0.mp c
      have nz : ¬ (((Int32.ofNat a >>> (Int32.ofNat b &&& 31)) &&& (1 : Int32)) = (1 : Int32)) := fun z => by rw [hf1.mp z] at tz; exact absurd tz (by decide)
      refine R2.cr (Q := fun r => r = 0) (Pc.i (fun z => absurd z nz) (fun _ => Pc.ok rfl)) (fun r er => R2.ir (fun _ => ?_) (fun z => absurd er z))
      have z8 : rd M (k1 + 2) ((8 : Int32)).toNatClampNeg = rd N 136 47 := hP.tl 8 (by decide)
      have zl : rd M (k1 + 1) (Int32.ofNat fl).toNatClampNeg = rd N 136 (2 + fl) := by rw [cf]; exact hP.leg fl flL
      rw [z8, zl]
      have short : Pc (mX7_isShort 135 (Int32.ofNat b) (Int32.ofNat s) N) (fun r => (r = 0 ∧ rd N 136 47 ≤ rd N 136 (2 + fl)) ∨ (r = 1 ∧ ¬ rd N 136 47 ≤ rd N 136 (2 + fl))) := by
        have b11 : Pc (mX7_isShort_b11 135 N (Int32.ofNat fl)) (fun r => (r = 0 ∧ rd N 136 47 ≤ rd N 136 (2 + fl)) ∨ (r = 1 ∧ ¬ rd N 136 47 ≤ rd N 136 (2 + fl))) := by
          unfold mX7_isShort_b11
          have c2 : ((2 : Int32) + Int32.ofNat fl).toNatClampNeg = 2 + fl := by
            rw [i_clamp, i_add (by rw [show ((2 : Int32)).toInt = 2 from rfl]; omega) (by rw [show ((2 : Int32)).toInt = 2 from rfl]; omega), show ((2 : Int32)).toInt = 2 from rfl]; omega
          rw [c2]
          refine Pc.k (fun _ => Pc.c (pc_toolOf (i := 47) (by decide)) (fun r4 e4 => ?_))
          rw [e4]
          exact Pc.i (fun c => Pc.ok (Or.inl ⟨rfl, c⟩)) (fun c => Pc.ok (Or.inr ⟨rfl, c⟩))
        unfold mX7_isShort
        have hs2 : s = 0 ∨ s = 1 := by omega
        rcases hs2 with rfl | rfl
        · rw [if_pos rfl] at hfl
          have e1 : Int32.ofNat b + (1 : Int32) = Int32.ofNat fl := by rw [hfl]; exact (Int32.ofNat_add b 1).symm
          rw [e1]
          exact Pc.i (fun _ => b11) (fun z => absurd rfl z)
        · rw [if_neg (by decide)] at hfl
          rw [← hfl]
          exact Pc.i (fun z => absurd z (by decide)) (fun _ => b11)
      refine R2.il (fun z => ?_) (fun _ => R2.il (fun z => ?_) (fun _ => R2.kl (fun _ => R2.kl (fun _ => R2.cr short (fun r6 p6 => ?_)))))
      · have z := i_lt.mp z
        rw [tf, show ((0 : Int32)).toInt = 0 from rfl] at z
        exfalso; omega
      · have z := i_le.mp z
        rw [tf, show ((9 : Int32)).toInt = 9 from rfl] at z
        exfalso; omega
      rcases p6 with ⟨rfl, p6⟩ | ⟨rfl, p6⟩
      · refine R2.il (fun _ => R2.ir (fun _ => ?_) (fun z => absurd rfl z)) (fun z => absurd p6 z)
        refine R2.mm (sheet_B hd8 hP hn hb hs ha) (fun M1 _ N1 _ r => ?_)
        obtain ⟨hS, kM, kN⟩ := r
        have hS : SH k b s M1 N1 := hS
        have kM : KS (SPs k) M M1 := kM
        have kN : KS SRl N N1 := kN
        have hP1 : PB k1 M1 (row 136 N1) := by rw [row_srl kN]; exact hP.sps hd8 kM
        have l1' : (rd N1 136 1).toInt = (n : Int) + 1 := by rw [kN 136 1 (by unfold SRl; omega)]; exact l1
        refine R2.mono (why_in hd8 hP1 l1' n8 hb hs hS) (fun p q w => ⟨w.1, ?_, ?_, fun _ => ?_⟩)
        · rw [w.2.1]; exact kM
        · rw [w.2.2]; exact kN
        · rw [w.2.1, w.2.2]; exact hS
      · exact R2.il (fun z => absurd z p6) (fun _ => R2.ir (fun z => absurd z (by decide)) (fun _ => R2.ok ⟨rfl, KS.rf, KS.rf, fun z => absurd (show (2 : Int32) = 0 from z) (by decide)⟩))
    · have tz : a.testBit b = true := by
        cases e : a.testBit b with
        | true => rfl
        | false => exact absurd (hf0.mpr e) c
      refine R2.cr (Q := fun r => r = 1) (Pc.i (fun _ => Pc.ok rfl) (fun z => absurd (hf1.mpr tz) z)) (fun r er => R2.ir (fun z => absurd (er.symm.trans z) (by decide)) (fun _ => R2.ok ⟨rfl, KS.rf, KS.rf, fun z => absurd (show (1 : Int32) = 0 from z) (by decide)⟩))
  unfold mX2_reasonFor
  rw [f_shr1 (2 * b + s) (by omega), show (2 * b + s) / 2 = b by omega, f_and1 (2 * b + s) (by omega), show (2 * b + s) % 2 = s by omega, bnd_e]
  have hs2 : s = 0 ∨ s = 1 := by omega
  rcases hs2 with rfl | rfl
  · refine R2.il (fun _ => ?_) (fun z => absurd rfl z)
    have e1 : Int32.ofNat b + (1 : Int32) = Int32.ofNat (b + 1) := (Int32.ofNat_add b 1).symm
    rw [e1]
    exact go (b + 1) (by rw [if_pos rfl])
  · exact R2.il (fun z => absurd z (by decide)) (fun _ => go b (by rw [if_neg (by decide)]))
/-- the gauge of a step -/
theorem gaugeOf_G (hd8 : k1 + 8 ≤ k) (hP : PG k1 M (row 136 N)) (hn : (rd N 136 0).toInt = (n : Int)) (hb : b < n) (hs : s < 2) (ha : a < 2 ^ n) :
    R2 (cal (mX2_layStep k k1 (Int32.ofNat a) (Int32.ofNat (2 * b + s)) M) (fun M1 _ => cap (mX2_reachToBack k M1) (fun r => some (M1, r)))) (mX7_gaugeOf 135 (Int32.ofNat b) (Int32.ofNat s) (Int32.ofNat a) N) (fun p q => p.2 = q.2 ∧ KS (SPs k) M p.1 ∧ KS SRl N q.1) := by
  have n8 : n ≤ 8 := by have := hP.n8; have e : (row 136 N 0).toInt = (n : Int) := hn; omega
  have h9 : (rd N 136 1).toInt ≤ 9 := hP.lb.2
  unfold mX7_gaugeOf
  refine R2.mm (sheet_G hd8 hP hn hb hs ha) (fun M1 _ N1 _ r => ?_)
  obtain ⟨hS, kM, kN⟩ := r
  have kN' : KS SRl N N1 := kN
  have h9' : (rd N1 136 1).toInt ≤ 9 := by rw [kN' 136 1 (by unfold SRl; omega)]; exact h9
  exact R2.cc (gauge_R hS (by omega) hs h9') (fun g g' e => R2.ok ⟨e, kM, kN⟩)
theorem gaugeOf_B (hd8 : k1 + 8 ≤ k) (hP : PB k1 M (row 136 N)) (hn : (rd N 136 0).toInt = (n : Int)) (hb : b < n) (hs : s < 2) (ha : a < 2 ^ n) :
    R2 (cal (mX2_layStep k k1 (Int32.ofNat a) (Int32.ofNat (2 * b + s)) M) (fun M1 _ => cap (mX2_reachToBack k M1) (fun r => some (M1, r)))) (mX7_gaugeOf 135 (Int32.ofNat b) (Int32.ofNat s) (Int32.ofNat a) N) (fun p q => p.2 = q.2 ∧ KS (SPs k) M p.1 ∧ KS SRl N q.1) := gaugeOf_G hd8 hP.pg hn hb hs ha
theorem reason_R (hd8 : k1 + 8 ≤ k) (hP : PR k1 M (row 136 N)) (hn : (rd N 136 0).toInt = (n : Int)) (hb : b < n) (hs : s < 2) (ha : a < 2 ^ n) :
    R2 (mX2_reasonFor k k1 (Int32.ofNat a) (Int32.ofNat (2 * b + s)) M) (mX7_reasonOf 135 (Int32.ofNat b) (Int32.ofNat s) (Int32.ofNat a) N) (WyR k b s M N) := reason_B hd8 hP.pb hn hb hs ha
theorem gaugeOf_R (hd8 : k1 + 8 ≤ k) (hP : PR k1 M (row 136 N)) (hn : (rd N 136 0).toInt = (n : Int)) (hb : b < n) (hs : s < 2) (ha : a < 2 ^ n) :
    R2 (cal (mX2_layStep k k1 (Int32.ofNat a) (Int32.ofNat (2 * b + s)) M) (fun M1 _ => cap (mX2_reachToBack k M1) (fun r => some (M1, r)))) (mX7_gaugeOf 135 (Int32.ofNat b) (Int32.ofNat s) (Int32.ofNat a) N) (fun p q => p.2 = q.2 ∧ KS (SPs k) M p.1 ∧ KS SRl N q.1) := gaugeOf_B hd8 hP.pb hn hb hs ha
end RR
