/-! a step's sheet: laid alike -/
theorem f_shr1 : ∀ c, c < 17 → (Int32.ofNat c >>> ((1 : Int32) &&& 31)) = Int32.ofNat (c / 2) := by decide +kernel
theorem f_and1 : ∀ c, c < 17 → (Int32.ofNat c &&& (1 : Int32)) = Int32.ofNat (c % 2) := by decide +kernel
section SHT
variable {M N M0 N0 : Mem} {k k1 : Nat}
def SPs (k : Nat) (c j : Nat) : Prop := (k + 1 ≤ c ∧ c ≤ k + 6) ∨ (c = k ∧ 6 ≤ j ∧ j ≤ 8)
/-- a sheet laid by both: bend b, side s -/
def SH (k b s : Nat) (M N : Mem) : Prop := (∀ j : Nat, (j : Int) < (rd N 136 1).toInt → LG k M N j) ∧ rd M k 6 = rd N 136 1 ∧ (rd M k 7).toInt = (if s = 0 then 0 else (b : Int) + 1) ∧ (rd M k 8).toInt = (if s = 0 then (b : Int) else (rd N 136 1).toInt - 1)
def ShR (k b s : Nat) (M N : Mem) (p q : Mem × Unit) : Prop := SH k b s p.1 q.1 ∧ KS (SPs k) M p.1 ∧ KS SRl N q.1
theorem pc_goesUp {b : Nat} (h0 : 0 ≤ (rd M k1 2).toInt ∧ (rd M k1 2).toInt ≤ 255) (hb : b < 9) : Pc (mX1_goesUp k1 (Int32.ofNat b) M) (fun r => r = if (rd M k1 2).toInt.toNat.testBit b then 1 else 0) := by
  unfold mX1_goesUp
  have e : rd M k1 2 = Int32.ofNat (rd M k1 2).toInt.toNat := o_of h0.1
  have hf := f_has0 (rd M k1 2).toInt.toNat (by omega) b hb
  rw [← e] at hf
  refine Pc.i (fun c => Pc.ok ?_) (fun c => Pc.ok ?_)
  · rw [hf.mp c]; rfl
  · cases q : (rd M k1 2).toInt.toNat.testBit b with
    | true => rfl
    | false => exact absurd (hf.mpr q) c
theorem WI.pl {up : Nat → Bool} {n : Nat} {x5 : Int32} {M M' N : Mem} (hd8 : k1 + 8 ≤ k) (hn : (rd N 136 0).toInt = (n : Int)) (l1 : (rd N 136 1).toInt = (n : Int) + 1) (n8 : n ≤ 8) (hleg : ∀ j : Nat, (j : Int) < (rd N 136 1).toInt → rd M (k1 + 1) j = rd N 136 (2 + j)) (hr : ∀ b', b' < n → (up b' = true ↔ ((rd N 136 (11 + b') = 1 ∧ ¬ x5 = 1) ∨ (¬ rd N 136 (11 + b') = 1 ∧ ¬ x5 = 0)))) (kM : KS (SPs k) M M') (e : rd M' k 6 = rd N 136 1) : WI k k1 up n x5 M' N := by
  refine ⟨e, by omega, fun j hj => ?_, hn, hr⟩
  rw [kM (k1 + 1) j (by unfold SPs; omega)]
  exact hleg j hj
theorem LG.of {M1 M2 N1 N2 : Mem} {j : Nat} (h1 : ∀ c, rd M2 c j = rd M1 c j) (h2 : ∀ c, 141 ≤ c ∧ c ≤ 144 → rd N2 c j = rd N1 c j) (h : LG k M1 N1 j) : LG k M2 N2 j := by
  unfold LG at h ⊢
  rw [h1, h1, h1, h1, h1, h1, h2 141 (by omega), h2 142 (by omega), h2 143 (by omega), h2 144 (by omega)]
  exact h
section SD
variable {b a n : Nat} {x5 x7 : Int32} {up : Nat → Bool}
theorem sh_0 (hd8 : k1 + 8 ≤ k) (hlc : rd M k1 0 = rd N 136 1) (hn : (rd N 136 0).toInt = (n : Int)) (l1 : (rd N 136 1).toInt = (n : Int) + 1) (n8 : n ≤ 8) (hleg : ∀ j : Nat, (j : Int) < (rd N 136 1).toInt → rd M (k1 + 1) j = rd N 136 (2 + j)) (hb : b < n) (ha : a < 2 ^ n) (hc : ∀ b', b' < n → ((((x7 >>> (Int32.ofNat b' &&& 31)) &&& (1 : Int32)) = 0) ↔ up b' = false)) (hr : ∀ b', b' < n → (up b' = true ↔ ((rd N 136 (11 + b') = 1 ∧ ¬ x5 = 1) ∨ (¬ rd N 136 (11 + b') = 1 ∧ ¬ x5 = 0)))) : R2 (mX2_layStep_b27 k k1 (Int32.ofNat a) (Int32.ofNat (2 * b + 0)) (Int32.ofNat b) x7 M) (mX7_laySheet_b17 135 (Int32.ofNat b) 0 (Int32.ofNat a) x5 N) (ShR k b 0 M N) := by
  have tb : (Int32.ofNat b).toInt = (b : Int) := t_of (by omega)
  have tb1 := i_inc (i := Int32.ofNat b) (by omega) (by omega)
  unfold mX2_layStep_b27 mX7_laySheet_b17 mX7_laySheet_b31 mX7_laySheet_b40 mX7_laySheet_b60 mX7_laySheet_b69
  rw [f_and1 (2 * b + 0) (by omega), show (2 * b + 0) % 2 = 0 by omega]
  refine R2.bl (fun M6 e6 => R2.il (fun _ => R2.ir (fun _ => R2.ir (fun _ => R2.bl (fun M19 e19 => R2.bl (fun M21 e21 => ?_))) (fun z => absurd rfl z)) (fun z => absurd rfl z)) (fun z => absurd rfl z))
  have k21 : KS (SPs k) M M21 := by rw [e21, e19, e6]; exact ((KS.rf.wr (Or.inr ⟨rfl, by omega, by omega⟩)).wr (Or.inr ⟨rfl, by omega, by omega⟩)).wr (Or.inr ⟨rfl, by omega, by omega⟩)
  have s21 : rd M21 k 6 = rd N 136 1 := by rw [e21, rd_wj (by decide), e19, rd_wj (by decide), e6, rd_we]; exact hlc
  have hW := WI.pl hd8 hn l1 n8 hleg hr k21 s21
  refine R2.mm (side_R (Or.inl hd8) (Or.inr rfl) ha n8 (t := 1) (d := 3) (by decide) (by decide) hc hW (by decide) (by omega) (fun _ => by omega) (fun z => absurd z (by decide)) rfl rfl rfl) (fun M25 _ N7 _ r1 => ?_)
  have r1 : WR k (-1) (Int32.ofNat b).toInt M21 N M25 N7 := r1
  have hW2 := hW.ks (Or.inl hd8) r1.1 r1.2.1
  have l7 : rd N7 136 1 = rd N 136 1 := r1.2.1 136 1 (by unfold SRl; omega)
  refine R2.ir (fun _ => R2.ir (fun _ => ?_) (fun z => absurd rfl z)) (fun z => absurd rfl z)
  refine R2.mm (side_R (Or.inl hd8) (Or.inl rfl) ha n8 (t := 3) (d := 0) (by decide) (by decide) hc hW2 (by decide) (by omega) (fun z => absurd z (by decide)) (fun _ => by omega) rfl rfl rfl) (fun M28 _ N12 _ r2 => R2.ok ?_)
  have r2 : WR k 1 (Int32.ofNat b + 1).toInt M25 N7 M28 N12 := r2
  have l12 : rd N12 136 1 = rd N 136 1 := (r2.2.1 136 1 (by unfold SRl; omega)).trans l7
  have c6 : ∀ j, rd M28 k j = rd M21 k j := fun j => by rw [r2.1 k j (by unfold SPl; omega), r1.1 k j (by unfold SPl; omega)]
  refine ⟨⟨fun j hj => ?_, ?_, ?_, ?_⟩, k21.trans ((r1.1.trans r2.1).mono (fun c j z => Or.inl z)), r1.2.1.trans r2.2.1⟩
  · have hj : (j : Int) < (rd N12 136 1).toInt := hj
    rw [l12] at hj
    refine r2.2.2.1 j (by rw [l7]; exact hj) ?_
    by_cases q : j ≤ b
    · left
      refine r1.2.2.1 j hj (Or.inr ?_)
      unfold vis
      rw [if_neg (by decide), tb]; omega
    · right
      unfold vis
      rw [if_pos rfl, tb1, tb]; omega
  · show rd M28 k 6 = rd N12 136 1
    rw [c6, s21, l12]
  · show (rd M28 k 7).toInt = _
    rw [c6, e21, rd_wj (by decide), e19, rd_we, if_pos rfl]; rfl
  · show (rd M28 k 8).toInt = _
    rw [c6, e21, rd_we, if_pos rfl]; exact tb
theorem sh_1 (hd8 : k1 + 8 ≤ k) (hlc : rd M k1 0 = rd N 136 1) (hn : (rd N 136 0).toInt = (n : Int)) (l1 : (rd N 136 1).toInt = (n : Int) + 1) (n8 : n ≤ 8) (hleg : ∀ j : Nat, (j : Int) < (rd N 136 1).toInt → rd M (k1 + 1) j = rd N 136 (2 + j)) (hb : b < n) (ha : a < 2 ^ n) (hc : ∀ b', b' < n → ((((x7 >>> (Int32.ofNat b' &&& 31)) &&& (1 : Int32)) = 0) ↔ up b' = false)) (hr : ∀ b', b' < n → (up b' = true ↔ ((rd N 136 (11 + b') = 1 ∧ ¬ x5 = 1) ∨ (¬ rd N 136 (11 + b') = 1 ∧ ¬ x5 = 0)))) : R2 (mX2_layStep_b27 k k1 (Int32.ofNat a) (Int32.ofNat (2 * b + 1)) (Int32.ofNat b) x7 M) (mX7_laySheet_b17 135 (Int32.ofNat b) 1 (Int32.ofNat a) x5 N) (ShR k b 1 M N) := by
  have tb : (Int32.ofNat b).toInt = (b : Int) := t_of (by omega)
  have tb1 := i_inc (i := Int32.ofNat b) (by omega) (by omega)
  unfold mX2_layStep_b27 mX7_laySheet_b17 mX7_laySheet_b31 mX7_laySheet_b40 mX7_laySheet_b60 mX7_laySheet_b69
  rw [f_and1 (2 * b + 1) (by omega), show (2 * b + 1) % 2 = 1 by omega]
  refine R2.bl (fun M6 e6 => R2.il (fun z => absurd z (by decide)) (fun _ => R2.ir (fun z => absurd z (by decide)) (fun _ => R2.ir (fun z => absurd z (by decide)) (fun _ => R2.bl (fun M9 e9 => R2.bl (fun M11 e11 => ?_))))))
  have k11 : KS (SPs k) M M11 := by rw [e11, e9, e6]; exact ((KS.rf.wr (Or.inr ⟨rfl, by omega, by omega⟩)).wr (Or.inr ⟨rfl, by omega, by omega⟩)).wr (Or.inr ⟨rfl, by omega, by omega⟩)
  have s9 : rd M9 k 6 = rd N 136 1 := by rw [e9, rd_wj (by decide), e6, rd_we]; exact hlc
  have s11 : rd M11 k 6 = rd N 136 1 := by rw [e11, rd_wj (by decide)]; exact s9
  have hW := WI.pl hd8 hn l1 n8 hleg hr k11 s11
  intro p q hp hq
  obtain ⟨M15, u1, p1, p2⟩ := cal_s hp
  obtain ⟨M18, u2, p3, p4⟩ := cal_s p2
  cases p4
  obtain ⟨N7, v1, q1, q2⟩ := cal_s hq
  have q2 := ite_f (by decide) q2
  have q2 := ite_f (by decide) q2
  obtain ⟨N12, v2, q3, q4⟩ := cal_s q2
  cases q4
  have kM1 : KS (SPl k) M11 M15 := pX2_walk KS.rf _ p1
  have kN1 : KS SRl N N7 := pX7_laySide KS.rf _ q1
  have l7 : rd N7 136 1 = rd N 136 1 := kN1 136 1 (by unfold SRl; omega)
  -- the legs behind the bend
  have r1 := side_R (Or.inl hd8) (Or.inl rfl) ha n8 (t := 1) (d := 3) (by decide) (by decide) hc (hW.ks (Or.inl hd8) KS.rf kN1) (by decide) (by omega) (fun z => absurd z (by decide)) (fun _ => by omega) rfl rfl rfl _ _ p1 q3
  have r1 : WR k 1 (Int32.ofNat b + 1).toInt M11 N7 M15 N12 := r1
  -- the legs up to it
  have r2 := side_R (Or.inl hd8) (Or.inr rfl) ha n8 (t := 3) (d := 0) (by decide) (by decide) hc (hW.ks (Or.inl hd8) kM1 KS.rf) (by decide) (by omega) (fun _ => by omega) (fun z => absurd z (by decide)) rfl rfl rfl _ _ p3 q1
  have r2 : WR k (-1) (Int32.ofNat b).toInt M15 N M18 N7 := r2
  have l12 : rd N12 136 1 = rd N 136 1 := (r1.2.1 136 1 (by unfold SRl; omega)).trans l7
  have c6 : ∀ j, rd M18 k j = rd M11 k j := fun j => by rw [r2.1 k j (by unfold SPl; omega), r1.1 k j (by unfold SPl; omega)]
  refine ⟨⟨fun j hj => ?_, ?_, ?_, ?_⟩, k11.trans ((r1.1.trans r2.1).mono (fun c j z => Or.inl z)), r2.2.1.trans r1.2.1⟩
  · have hj : (j : Int) < (rd N12 136 1).toInt := hj
    rw [l12] at hj
    by_cases q : j ≤ b
    · refine LG.of (M1 := M18) (N1 := N7) (fun _ => rfl) (fun c hc => r1.2.2.2.2 c j hc ?_) (r2.2.2.1 j hj (Or.inr ?_))
      · unfold vis
        rw [if_pos rfl, tb1, tb]; omega
      · unfold vis
        rw [if_neg (by decide), tb]; omega
    · refine LG.of (M1 := M15) (N1 := N12) (fun c => r2.2.2.2.1 c j ?_) (fun _ _ => rfl) (r1.2.2.1 j (by rw [l7]; exact hj) (Or.inr ?_))
      · unfold vis
        rw [if_neg (by decide), tb]; omega
      · unfold vis
        rw [if_pos rfl, tb1, tb]; omega
  · show rd M18 k 6 = rd N12 136 1
    rw [c6, s11, l12]
  · show (rd M18 k 7).toInt = _
    rw [c6, e11, rd_wj (by decide), e9, rd_we, if_neg (by decide), tb1, tb]
  · show (rd M18 k 8).toInt = (if 1 = 0 then _ else (rd N12 136 1).toInt - 1)
    rw [c6, e11, rd_we, s9, if_neg (by decide), l12, i_sub (by rw [show ((1 : Int32)).toInt = 1 from rfl]; omega) (by rw [show ((1 : Int32)).toInt = 1 from rfl]; omega)]; rfl
end SD
theorem sheet_G {b s a n : Nat} (hd8 : k1 + 8 ≤ k) (hP : PG k1 M (row 136 N)) (hn : (rd N 136 0).toInt = (n : Int)) (hb : b < n) (hs : s < 2) (ha : a < 2 ^ n) :
    R2 (mX2_layStep k k1 (Int32.ofNat a) (Int32.ofNat (2 * b + s)) M) (mX7_laySheet 135 (Int32.ofNat b) (Int32.ofNat s) (Int32.ofNat a) N) (ShR k b s M N) := by
  have n8 : n ≤ 8 := by have := hP.n8; have e : (row 136 N 0).toInt = (n : Int) := hn; omega
  have l1 : (rd N 136 1).toInt = (n : Int) + 1 := by
    have e : (row 136 N 0).toInt = (n : Int) := hn
    have h1 := hP.nn
    have h2 := hP.lb
    have e1 : (row 136 N 1).toInt = (rd N 136 1).toInt := rfl
    rw [e, e1] at h1
    rw [e1] at h2
    split at h1 <;> omega
  have hub := hP.ub
  have hup : ∀ b' : Nat, b' < n → (rd N 136 (11 + b') = if (rd M k1 2).toInt.toNat.testBit b' then 1 else 0) := fun b' hb' => hP.up b' (by show (b' : Int) < (rd N 136 0).toInt; omega)
  unfold mX2_layStep mX7_laySheet
  rw [f_shr1 (2 * b + s) (by omega), show (2 * b + s) / 2 = b by omega]
  rw [bnd_e]
  refine R2.cl (pc_goesUp (b := b) hub (by omega)) (fun r3 p3 => R2.kr (fun _ => ?_))
  rw [p3]
  have tb : (Int32.ofNat b).toInt = (b : Int) := t_of (by omega)
  have ei : ((11 : Int32) + Int32.ofNat b).toNatClampNeg = 11 + b := by
    rw [i_clamp, i_add (by rw [tb, show ((11 : Int32)).toInt = 11 from rfl]; omega) (by rw [tb, show ((11 : Int32)).toInt = 11 from rfl]; omega), tb, show ((11 : Int32)).toInt = 11 from rfl]; omega
  rw [ei]
  show R2 _ (ite2 (rd N 136 (11 + b) = 0) _ _) _
  rw [hup b hb]
  have eu : rd M k1 2 = Int32.ofNat (rd M k1 2).toInt.toNat := o_of hub.1
  have hu256 : (rd M k1 2).toInt.toNat < 256 := by omega
  generalize (rd M k1 2).toInt.toNat = u at *
  have hs2 : s = 0 ∨ s = 1 := by omega
  by_cases q : u.testBit b = true
  · rw [if_pos q]
    have hc : ∀ b', b' < n → ((((rd M k1 2 >>> (Int32.ofNat b' &&& 31)) &&& (1 : Int32)) = 0) ↔ u.testBit b' = false) := fun b' hb' => by rw [eu]; exact f_has0 u hu256 b' (by omega)
    have hr : ∀ b', b' < n → (u.testBit b' = true ↔ ((rd N 136 (11 + b') = 1 ∧ ¬ (0 : Int32) = 1) ∨ (¬ rd N 136 (11 + b') = 1 ∧ ¬ (0 : Int32) = 0))) := fun b' hb' => by
      rw [hup b' hb']
      cases u.testBit b' <;> simp
    refine R2.il (fun z => absurd z (by decide)) (fun _ => R2.ir (fun z => absurd z (by decide)) (fun _ => ?_))
    rcases hs2 with rfl | rfl
    · exact sh_0 hd8 hP.lc hn l1 n8 hP.leg hb ha hc hr
    · exact sh_1 hd8 hP.lc hn l1 n8 hP.leg hb ha hc hr
  · rw [if_neg q]
    have hc : ∀ b', b' < n → (((((rd M k1 2 ^^^ (-1 : Int32)) >>> (Int32.ofNat b' &&& 31)) &&& (1 : Int32)) = 0) ↔ (!u.testBit b') = false) := fun b' hb' => by
      rw [eu, f_hasx u hu256 b' (by omega)]
      cases u.testBit b' <;> simp
    have hr : ∀ b', b' < n → ((!u.testBit b') = true ↔ ((rd N 136 (11 + b') = 1 ∧ ¬ (1 : Int32) = 1) ∨ (¬ rd N 136 (11 + b') = 1 ∧ ¬ (1 : Int32) = 0))) := fun b' hb' => by
      rw [hup b' hb']
      cases u.testBit b' <;> simp
    refine R2.il (fun _ => R2.ir (fun _ => ?_) (fun z => absurd rfl z)) (fun z => absurd rfl z)
    rcases hs2 with rfl | rfl
    · exact sh_0 hd8 hP.lc hn l1 n8 hP.leg hb ha hc hr
    · exact sh_1 hd8 hP.lc hn l1 n8 hP.leg hb ha hc hr
theorem sheet_B {b s a n : Nat} (hd8 : k1 + 8 ≤ k) (hP : PB k1 M (row 136 N)) (hn : (rd N 136 0).toInt = (n : Int)) (hb : b < n) (hs : s < 2) (ha : a < 2 ^ n) :
    R2 (mX2_layStep k k1 (Int32.ofNat a) (Int32.ofNat (2 * b + s)) M) (mX7_laySheet 135 (Int32.ofNat b) (Int32.ofNat s) (Int32.ofNat a) N) (ShR k b s M N) := sheet_G hd8 hP.pg hn hb hs ha
theorem sheet_R {b s a n : Nat} (hd8 : k1 + 8 ≤ k) (hP : PR k1 M (row 136 N)) (hn : (rd N 136 0).toInt = (n : Int)) (hb : b < n) (hs : s < 2) (ha : a < 2 ^ n) :
    R2 (mX2_layStep k k1 (Int32.ofNat a) (Int32.ofNat (2 * b + s)) M) (mX7_laySheet 135 (Int32.ofNat b) (Int32.ofNat s) (Int32.ofNat a) N) (ShR k b s M N) := sheet_B hd8 hP.pb hn hb hs ha
end SHT
