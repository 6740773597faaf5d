/-! what a step costs now: alike -/
section CO
variable {M N : Mem} {k b s a n : Nat}
/-- the steps of a row are steps -/
def SQ (n : Nat) (f : Nat → Int32) : Prop := ∀ j : Nat, (j : Int) < (f 53).toInt → (0 ≤ (f (54 + 4 * j)).toInt ∧ (f (54 + 4 * j)).toInt < (n : Int)) ∧ (0 ≤ (f (55 + 4 * j)).toInt ∧ (f (55 + 4 * j)).toInt ≤ 1)
theorem pc_lastCode (h8 : (rd M k 14).toInt ≤ 8) : Pc (mX1_lastCode k M) (fun r => ((rd M k 14).toInt ≤ 0 ∧ r = -1) ∨ (0 < (rd M k 14).toInt ∧ r = rd M (k + 5) ((rd M k 14).toInt.toNat - 1))) := by
  unfold mX1_lastCode
  have n1 : ((1 : Int32)).toInt = 1 := rfl
  refine Pc.i (fun c => Pc.ok (Or.inl ⟨?_, rfl⟩)) (fun c => Pc.k (fun _ => Pc.ok (Or.inr ⟨?_, ?_⟩)))
  · have c := i_le.mp c; exact c
  · have c := i_nle c; exact c
  · have c : 0 < (rd M k 14).toInt := i_nle c
    rw [i_clamp, i_sub (by omega) (by omega), n1, show ((rd M k 14).toInt - 1).toNat = (rd M k 14).toInt.toNat - 1 by omega]
theorem pc_lastGauge (h8 : (rd M k 14).toInt ≤ 8) : Pc (mX1_lastGauge k M) (fun r => ((rd M k 14).toInt ≤ 0 ∧ r = -1) ∨ (0 < (rd M k 14).toInt ∧ r = rd M (k + 6) ((rd M k 14).toInt.toNat - 1))) := by
  unfold mX1_lastGauge
  have n1 : ((1 : Int32)).toInt = 1 := rfl
  refine Pc.i (fun c => Pc.ok (Or.inl ⟨?_, rfl⟩)) (fun c => Pc.k (fun _ => Pc.ok (Or.inr ⟨?_, ?_⟩)))
  · have c := i_le.mp c; exact c
  · have c := i_nle c; exact c
  · have c : 0 < (rd M k 14).toInt := i_nle c
    rw [i_clamp, i_sub (by omega) (by omega), n1, show ((rd M k 14).toInt - 1).toNat = (rd M k 14).toInt.toNat - 1 by omega]
theorem pc_stepOf {j w : Nat} (hj : j < 8) (hw : w < 4) : Pc (mX7_stepOf 135 (Int32.ofNat j) (Int32.ofNat w) N) (fun r => r = rd N 136 (54 + 4 * j + w)) := by
  unfold mX7_stepOf
  have tj : (Int32.ofNat j).toInt = (j : Int) := t_of (by omega)
  have tw : (Int32.ofNat w).toInt = (w : Int) := t_of (by omega)
  have e := stepOf_at (x1 := Int32.ofNat j) (x2 := Int32.ofNat w) (by omega) (by omega)
  have ec : (((54 : Int32) + ((4 : Int32) * Int32.ofNat j)) + Int32.ofNat w).toNatClampNeg = 54 + 4 * j + w := by rw [i_clamp, e, tj, tw]; omega
  rw [ec]
  exact Pc.k (fun _ => Pc.ok rfl)
theorem costNow_R (hP : PR 5 M (row 136 N)) (hn : (rd N 136 0).toInt = (n : Int)) (hq : SQ n (row 136 N)) (hb : b < n) (hs : s < 2) (hm : rd M 5 13 = Int32.ofNat a) (ha : a < 2 ^ n) :
    R2 (mX6_costNow 0 (Int32.ofNat (2 * b + s)) M) (mX7_costNow 135 (Int32.ofNat b) (Int32.ofNat s) N) (fun p q => p.2 = q.2 ∧ KS (SPs 103) M p.1 ∧ KS SRl N q.1) := by
  have n8 : n ≤ 8 := by have := hP.n8; have e : (row 136 N 0).toInt = (n : Int) := hn; omega
  have ns : rd M 5 14 = rd N 136 53 := hP.ns
  have sb : 0 ≤ (rd N 136 53).toInt ∧ (rd N 136 53).toInt ≤ 8 := hP.sb
  have hmN : rd N 136 52 = Int32.ofNat a := by rw [← hm]; exact hP.ma.symm
  have n1 : ((1 : Int32)).toInt = 1 := rfl
  have pz : mX7_gaugeOf 135 (Int32.ofNat b) (Int32.ofNat s) (rd N (135 + 1) ((52 : Int32)).toNatClampNeg) N = mX7_gaugeOf 135 (Int32.ofNat b) (Int32.ofNat s) (Int32.ofNat a) N := by
    show mX7_gaugeOf 135 (Int32.ofNat b) (Int32.ofNat s) (rd N 136 52) N = _
    rw [hmN]
  unfold mX6_costNow mX7_costNow mX6_gaugeNow
  rw [pz, hm]
  refine R2.cl (pc_lastCode (by rw [ns]; exact sb.2)) (fun r2 p2 => R2.cl (pc_lastGauge (by rw [ns]; exact sb.2)) (fun r5 p5 => R2.kr (fun _ => R2.ir (fun c => ?_) (fun c => ?_))))
  · -- no step yet
    have c : (rd N 136 53).toInt = 0 := i_eq.mp c
    rw [ns] at p2
    have e2 : r2 = -1 := by
      rcases p2 with ⟨_, e⟩ | ⟨q, _⟩
      · exact e
      · exfalso; omega
    intro p q hp hq'
    cases hq'
    obtain ⟨M9, r8, x1, x2⟩ := cal_s hp
    obtain ⟨r11, x3, x4⟩ := cap_s x2
    cases x4
    obtain ⟨M3, u, x5, x6⟩ := cal_s x1
    obtain ⟨r, x7, x8⟩ := cap_s x6
    cases x8
    have e11 : r11 = 0 := by
      rw [e2] at x3
      have : mX1_priceBetween 5 (-1) r5 (Int32.ofNat (2 * b + s)) r8 M9 = some 0 := rfl
      rw [this] at x3
      cases x3; rfl
    refine ⟨e11, ?_, KS.rf⟩
    have hx : Fr (SPs 103) M (mX2_layStep 103 5 (Int32.ofNat a) (Int32.ofNat (2 * b + s)) M) := uX2_layStep KS.rf
    exact hx _ x5
  · have c : ¬ (rd N 136 53).toInt = 0 := i_ne c
    rw [ns] at p2 p5
    obtain ⟨j, hj⟩ : ∃ j : Nat, (rd N 136 53).toInt = (j : Int) + 1 := ⟨(rd N 136 53).toInt.toNat - 1, by omega⟩
    have j8 : j < 8 := by omega
    have ej : (rd N 136 53).toInt.toNat - 1 = j := by omega
    rw [ej] at p2 p5
    have e2 : r2 = rd M (5 + 5) j := by
      rcases p2 with ⟨q, _⟩ | ⟨_, e⟩
      · exfalso; omega
      · exact e
    have e5 : r5 = rd M (5 + 6) j := by
      rcases p5 with ⟨q, _⟩ | ⟨_, e⟩
      · exfalso; omega
      · exact e
    have st := hP.st j (by show (j : Int) < (rd N 136 53).toInt; omega)
    have sq := hq j (by show (j : Int) < (rd N 136 53).toInt; omega)
    obtain ⟨b1, hb1⟩ : ∃ b1 : Nat, (rd N 136 (54 + 4 * j)).toInt = (b1 : Int) := ⟨(rd N 136 (54 + 4 * j)).toInt.toNat, by have := sq.1.1; have e : (row 136 N (54 + 4 * j)).toInt = (rd N 136 (54 + 4 * j)).toInt := rfl; omega⟩
    obtain ⟨s1, hs1⟩ : ∃ s1 : Nat, (rd N 136 (55 + 4 * j)).toInt = (s1 : Int) := ⟨(rd N 136 (55 + 4 * j)).toInt.toNat, by have := sq.2.1; have e : (row 136 N (55 + 4 * j)).toInt = (rd N 136 (55 + 4 * j)).toInt := rfl; omega⟩
    have q1 : (row 136 N (54 + 4 * j)).toInt = (b1 : Int) := hb1
    have q2 : (row 136 N (55 + 4 * j)).toInt = (s1 : Int) := hs1
    rw [q1, q2] at sq
    have lb1 : b1 < n := by omega
    have ls1 : s1 < 2 := by omega
    have ec : r2 = Int32.ofNat (2 * b1 + s1) := by
      rw [e2, i_eq, t_of (by omega), st.1, q1, q2]; omega
    refine R2.kr (fun _ => R2.br (fun x3 ex3 => ?_))
    have ex3 : x3 = Int32.ofNat j := by
      rw [ex3, i_eq, t_of (by omega)]
      show (rd N 136 53 - 1).toInt = _
      rw [i_sub (by omega) (by omega)]; omega
    rw [ex3]
    refine R2.cr (pc_stepOf (j := j) (w := 0) j8 (by decide)) (fun r6 e6 => R2.cr (pc_stepOf (j := j) (w := 1) j8 (by decide)) (fun r9 e9 => R2.cr (pc_stepOf (j := j) (w := 2) j8 (by decide)) (fun r12 e12 => R2.kr (fun _ => ?_))))
    have e6 : r6 = Int32.ofNat b1 := by rw [e6, i_eq, t_of (by omega)]; exact hb1
    have e9 : r9 = Int32.ofNat s1 := by rw [e9, i_eq, t_of (by omega), show 54 + 4 * j + 1 = 55 + 4 * j by omega]; exact hs1
    have e12 : r12 = r5 := by rw [e12, e5, st.2.1, show 54 + 4 * j + 2 = 56 + 4 * j by omega]
    rw [e6, e9, e12, ec]
    refine R2.mm (gaugeOf_R (k := 103) (by decide) hP hn hb hs ha) (fun M9 r8 N17 r16 r => ?_)
    obtain ⟨eg, kM, kN⟩ := r
    have eg : r8 = r16 := eg
    have kM : KS (SPs 103) M M9 := kM
    have kN : KS SRl N N17 := kN
    subst eg
    have hP1 : PR 5 M9 (row 136 N17) := by rw [row_srl kN]; exact hP.sps (by decide) kM
    have hn1 : (rd N17 136 0).toInt = (n : Int) := by rw [kN 136 0 (by unfold SRl; omega)]; exact hn
    exact R2.cc (price_R hP1 hn1 lb1 hb ls1 hs) (fun x y e => R2.ok ⟨e, kM, kN⟩)
end CO
