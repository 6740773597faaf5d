/-! a lower beam hits no more -/
section MB
variable {g : Gm} {k k1 n m a b s c l e : Nat} {M M' N N' N0 NA NB : Mem} {x x1 x2 v hA hB : Int32}
/-- places laid from the same part are the same -/
def PE (NA NB : Mem) (L : Nat) : Prop := ∀ j, j < L → (rd NA 143 j = rd NB 143 j ∧ rd NA 144 j = rd NB 144 j) ∧ (min (rd NA 141 j).toInt (rd NA 143 j).toInt = min (rd NB 141 j).toInt (rd NB 143 j).toInt ∧ max (rd NA 141 j).toInt (rd NA 143 j).toInt = max (rd NB 141 j).toInt (rd NB 143 j).toInt) ∧ (min (rd NA 142 j).toInt (rd NA 144 j).toInt = min (rd NB 142 j).toInt (rd NB 144 j).toInt ∧ max (rd NA 142 j).toInt (rd NA 144 j).toInt = max (rd NB 142 j).toInt (rd NB 144 j).toInt)
theorem LG.pe {j : Nat} (h1 : LG k M NA j) (h2 : LG k M NB j) : (rd NA 143 j = rd NB 143 j ∧ rd NA 144 j = rd NB 144 j) ∧ (min (rd NA 141 j).toInt (rd NA 143 j).toInt = min (rd NB 141 j).toInt (rd NB 143 j).toInt ∧ max (rd NA 141 j).toInt (rd NA 143 j).toInt = max (rd NB 141 j).toInt (rd NB 143 j).toInt) ∧ (min (rd NA 142 j).toInt (rd NA 144 j).toInt = min (rd NB 142 j).toInt (rd NB 144 j).toInt ∧ max (rd NA 142 j).toInt (rd NA 144 j).toInt = max (rd NB 142 j).toInt (rd NB 144 j).toInt) := by
  obtain ⟨a1, a2, a3, a4, a5, a6⟩ := h1
  obtain ⟨b1, b2, b3, b4, b5, b6⟩ := h2
  refine ⟨⟨a1.symm.trans b1, a2.symm.trans b2⟩, ⟨?_, ?_⟩, ⟨?_, ?_⟩⟩
  · have := congrArg Int32.toInt (a3.symm.trans b3); rwa [i_min, i_min] at this
  · have := congrArg Int32.toInt (a4.symm.trans b4); rwa [i_max, i_max] at this
  · have := congrArg Int32.toInt (a5.symm.trans b5); rwa [i_min, i_min] at this
  · have := congrArg Int32.toInt (a6.symm.trans b6); rwa [i_max, i_max] at this
theorem pc_short (hb : b < 8) (hs : s < 2) : Pc (mX7_isShort 135 (Int32.ofNat b) (Int32.ofNat s) N) (fun r => (r = 0 ∧ rd N 136 47 ≤ rd N 136 (2 + (if s = 0 then b + 1 else b))) ∨ (r = 1 ∧ ¬ rd N 136 47 ≤ rd N 136 (2 + (if s = 0 then b + 1 else b)))) := by
  have b11 : ∀ fl : Nat, fl < 9 → Pc (mX7_isShort_b11 135 N (Int32.ofNat fl)) (fun r => (r = 0 ∧ rd N 136 47 ≤ rd N 136 (2 + fl)) ∨ (r = 1 ∧ ¬ rd N 136 47 ≤ rd N 136 (2 + fl))) := by
    intro fl hfl
    unfold mX7_isShort_b11
    have tf : (Int32.ofNat fl).toInt = (fl : Int) := t_of (by omega)
    have n2 : ((2 : Int32)).toInt = 2 := rfl
    have c2 : ((2 : Int32) + Int32.ofNat fl).toNatClampNeg = 2 + fl := by rw [i_clamp, i_add (by omega) (by omega)]; omega
    rw [c2]
    refine Pc.k (fun _ => Pc.c (pc_toolOf (i := 47) (by decide)) (fun r4 e4 => ?_))
    rw [e4]
    exact Pc.i (fun c => Pc.ok (Or.inl ⟨rfl, c⟩)) (fun c => Pc.ok (Or.inr ⟨rfl, c⟩))
  unfold mX7_isShort
  have hs2 : s = 0 ∨ s = 1 := by omega
  rcases hs2 with rfl | rfl
  · rw [show Int32.ofNat b + (1 : Int32) = Int32.ofNat (b + 1) from (Int32.ofNat_add b 1).symm, if_pos rfl]
    exact Pc.i (fun _ => b11 (b + 1) (by omega)) (fun z => absurd rfl z)
  · rw [if_neg (by decide)]
    exact Pc.i (fun z => absurd z (by decide)) (fun _ => b11 b (by omega))
theorem Ent.pe {x2 x3 x4 x5 x5' : Int32} (hp : PE NA NB n) (hl : l < n) (h5 : x5'.toInt ≤ x5.toInt) (h : Ent NB l x2 x3 x4 x5') : Ent NA l x2 x3 x4 x5 := by
  obtain ⟨_, ⟨p1, p2⟩, ⟨p3, p4⟩⟩ := hp l hl
  unfold Ent at h ⊢
  rw [p1, p2, p3, p4]
  omega
theorem Tch.pe {i j : Nat} (hp : PE NA NB n) (hi : i < n) (hj : j < n) (h : Tch NB i j) : Tch NA i j := by
  obtain ⟨_, ⟨p1, p2⟩, ⟨p3, p4⟩⟩ := hp i hi
  obtain ⟨_, ⟨q1, q2⟩, ⟨q3, q4⟩⟩ := hp j hj
  unfold Tch at h ⊢
  rw [p1, p2, p3, p4, q1, q2, q3, q4]
  exact h
/-- a step that a higher beam allows is allowed -/
theorem mono_ref {f : Bx} (h : SS M N) (hO : OKb f M) (hb : b < nb 5 M) (hs : s < 2) (ha : a < 2 ^ nb 5 M) (rA : row 136 NA = upf (row 136 N) 40 hA) (rB : row 136 NB = upf (row 136 N) 40 hB) (hle : hB.toInt ≤ hA.toInt) {qA qB : Mem × Int32} (eA : mX7_reasonOf 135 (Int32.ofNat b) (Int32.ofNat s) (Int32.ofNat a) NA = some qA) (eB : mX7_reasonOf 135 (Int32.ofNat b) (Int32.ofNat s) (Int32.ofNat a) NB = some qB) (z : qA.2 = 0) : qB.2 = 0 := by
  have n8 := nb8 (pr_9 h.1)
  have a256 := n_256 n8 ha
  have hn : (rd N 136 0).toInt = (nb 5 M : Int) := h.1.pb.bn
  have lb : 0 ≤ (rd N 136 1).toInt ∧ (rd N 136 1).toInt ≤ 9 := h.1.lb
  have xA : ∀ j, j ≠ 40 → rd NA 136 j = rd N 136 j := fun j hj => (congrFun rA j).trans (upf_n hj)
  have xB : ∀ j, j ≠ 40 → rd NB 136 j = rd N 136 j := fun j hj => (congrFun rB j).trans (upf_n hj)
  have yA : rd NA 136 40 = hA := (congrFun rA 40).trans upf_e
  have yB : rd NB 136 40 = hB := (congrFun rB 40).trans upf_e
  have PA : PG 5 M (row 136 NA) := h.1.pb.pg.congr (fun j hj => xA j (by omega))
  have PB' : PG 5 M (row 136 NB) := h.1.pb.pg.congr (fun j hj => xB j (by omega))
  obtain ⟨M1, eM, hO1⟩ := sX2_layStep (k0 := 103) (k1 := 5) isL_103 isP_5 hO (x2 := Int32.ofNat a) (x3 := Int32.ofNat (2 * b + s)) (by rw [t_of (by omega)]; omega) (by rw [t_of (by omega)]; omega)
  have sA := sheet_G (k := 103) (k1 := 5) (by omega) PA ((congrArg Int32.toInt (xA 0 (by omega))).trans hn) hb hs ha
  have sB := sheet_G (k := 103) (k1 := 5) (by omega) PB' ((congrArg Int32.toInt (xB 0 (by omega))).trans hn) hb hs ha
  unfold mX7_reasonOf at eA eB
  obtain ⟨r2, e2, eA⟩ := cap_s eA
  rw [show mX7_has (Int32.ofNat a) (Int32.ofNat b) NB = some r2 from e2] at eB
  have eB : ite2 (r2 = 0) _ _ = some qB := eB
  by_cases g2 : r2 = 0
  rotate_left
  · have eA := ite_f g2 eA
    cases eA
    exact absurd (show (1 : Int32) = 0 from z) (by decide)
  have eA := ite_t g2 eA
  have eB := ite_t g2 eB
  obtain ⟨r6, e6, eA⟩ := cap_s eA
  obtain ⟨r6', e6', eB⟩ := cap_s eB
  have h6 : r6 = r6' := by
    have u := pc_short (by omega) hs _ e6
    have w := pc_short (by omega) hs _ e6'
    have fl9 : (if s = 0 then b + 1 else b) < 9 := by split <;> omega
    rw [xA 47 (by omega), xA _ (by omega)] at u
    rw [xB 47 (by omega), xB _ (by omega)] at w
    rcases u with ⟨u, u2⟩ | ⟨u, u2⟩
    · rcases w with ⟨w, w2⟩ | ⟨w, w2⟩
      · rw [u, w]
      · exact absurd u2 w2
    · rcases w with ⟨w, w2⟩ | ⟨w, w2⟩
      · exact absurd w2 u2
      · rw [u, w]
  subst h6
  by_cases g6 : r6 = 0
  rotate_left
  · have eA := ite_f g6 eA
    cases eA
    exact absurd (show (2 : Int32) = 0 from z) (by decide)
  have eA := ite_t g6 eA
  have eB := ite_t g6 eB
  obtain ⟨A1, _, lA, eA⟩ := cal_s eA
  obtain ⟨B1, _, lB, eB⟩ := cal_s eB
  obtain ⟨SA, _, kA⟩ := sA _ _ eM lA
  obtain ⟨SB, _, kB⟩ := sB _ _ eM lB
  have kA : KS SRl NA A1 := kA
  have kB : KS SRl NB B1 := kB
  have SA : SH 103 b s M1.1 A1 := SA
  have SB : SH 103 b s M1.1 B1 := SB
  have wA : ∀ j, j ≠ 40 → rd A1 136 j = rd N 136 j := fun j hj => (kA 136 j (by unfold SRl; omega)).trans (xA j hj)
  have wB : ∀ j, j ≠ 40 → rd B1 136 j = rd N 136 j := fun j hj => (kB 136 j (by unfold SRl; omega)).trans (xB j hj)
  have vA : rd A1 136 40 = hA := (kA 136 40 (by unfold SRl; omega)).trans yA
  have vB : rd B1 136 40 = hB := (kB 136 40 (by unfold SRl; omega)).trans yB
  have pe : PE A1 B1 (rd N 136 1).toInt.toNat := fun j hj => LG.pe (SA.1 j (by rw [wA 1 (by omega)]; omega)) (SB.1 j (by rw [wB 1 (by omega)]; omega))
  obtain ⟨r13, e13, eA⟩ := cap_s eA
  obtain ⟨r13', e13', eB⟩ := cap_s eB
  have h13 : r13 = r13' := by
    obtain ⟨gg, egg, _⟩ := sX2_reachToBack (k0 := 103) (M := M1.1) isL_103 hO1
    unfold mX7_isGaugeLaid at e13 e13'
    obtain ⟨t2, u2, e13⟩ := cap_s e13
    obtain ⟨t2', u2', e13'⟩ := cap_s e13'
    have q1 := gauge_R SA (by omega) hs (by rw [wA 1 (by omega)]; exact lb.2) _ _ egg u2
    have q2 := gauge_R SB (by omega) hs (by rw [wB 1 (by omega)]; exact lb.2) _ _ egg u2'
    obtain ⟨t5, u5, e13⟩ := cap_s e13
    obtain ⟨t5', u5', e13'⟩ := cap_s e13'
    obtain ⟨t8, u8, e13⟩ := cap_s e13
    obtain ⟨t8', u8', e13'⟩ := cap_s e13'
    have w5 := pc_toolOf (i := 45) (by decide) _ u5
    have w5' := pc_toolOf (i := 45) (by decide) _ u5'
    have w8 := pc_toolOf (i := 46) (by decide) _ u8
    have w8' := pc_toolOf (i := 46) (by decide) _ u8'
    rw [wA 45 (by omega)] at w5
    rw [wB 45 (by omega)] at w5'
    rw [wA 46 (by omega)] at w8
    rw [wB 46 (by omega)] at w8'
    have d2 : t2 = t2' := q1.symm.trans q2
    have d5 : t5 = t5' := w5.trans w5'.symm
    have d8 : t8 = t8' := w8.trans w8'.symm
    subst d2
    subst d5
    subst d8
    obtain ⟨t11, u11, e13⟩ := cap_s e13
    obtain ⟨t11', u11', e13'⟩ := cap_s e13'
    have d11 : t11 = t11' := Option.some.inj (u11.symm.trans (show mX7_between t2.toInt64 t5.toInt64 t8.toInt64 A1 = some t11' from u11'))
    have f1 := (chk_s e13).2
    have f2 := (chk_s e13').2
    cases f1
    cases f2
    exact d11
  subst h13
  by_cases g13 : r13 = 0
  · have eA := ite_t g13 eA
    cases eA
    exact absurd (show (3 : Int32) = 0 from z) (by decide)
  have eA := ite_f g13 eA
  have eB := ite_f g13 eB
  have rb : ∀ (c fr : Int32) i, i < (rd N 136 1).toInt.toNat → RB B1 b s c fr i → RB A1 b s c fr i := by
    intro c fr i hi hr
    have hHB : HB B1 i → HB A1 i := fun hx => by
      unfold HB at hx ⊢
      rw [wA 39 (by omega), wA 41 (by omega), wA 42 (by omega), vA]
      rw [wB 39 (by omega), wB 41 (by omega), wB 42 (by omega), vB] at hx
      rcases hx with hx | hx
      · exact Or.inl (hx.pe pe hi hle)
      · exact Or.inr (hx.pe pe hi (Int.le_refl _))
    have hHW : HW B1 i → HW A1 i := fun hx => by
      unfold HW at hx ⊢
      rw [wA 43 (by omega), wA 44 (by omega)]
      rw [wB 43 (by omega), wB 44 (by omega)] at hx
      exact hx.pe pe hi (Int.le_refl _)
    unfold RB at hr ⊢
    rcases hr with ⟨h1, h2, h3⟩ | ⟨h1, h2, h3⟩
    · exact Or.inl ⟨h1, h2, hHB h3⟩
    · exact Or.inr ⟨h1, h2, h3.elim (fun y => Or.inl (hHB y)) (fun y => Or.inr (hHW y))⟩
  have none : ∀ (c fr : Int32) (rA' rB' : Int32), mX7_hittingLaid 135 (Int32.ofNat b) (Int32.ofNat s) c fr A1 = some rA' → mX7_hittingLaid 135 (Int32.ofNat b) (Int32.ofNat s) c fr B1 = some rB' → rA' = 0 → rB' = 0 := by
    intro c fr rA' rB' h1 h2 h3
    obtain ⟨m1, e1, b1, t1⟩ := pc_hitR (b := b) (s := s) (by omega) hs (by rw [wA 1 (by omega)]; exact lb.1) (by rw [wA 1 (by omega)]; exact lb.2) _ h1
    obtain ⟨m2, e2, b2, t2⟩ := pc_hitR (b := b) (s := s) (by omega) hs (by rw [wB 1 (by omega)]; exact lb.1) (by rw [wB 1 (by omega)]; exact lb.2) _ h2
    rw [wA 1 (by omega)] at b1 t1
    rw [wB 1 (by omega)] at b2 t2
    have p512 : 2 ^ (rd N 136 1).toInt.toNat ≤ 2 ^ 9 := Nat.pow_le_pow_right (by decide) (by omega)
    have p9 : (2 : Nat) ^ 9 = 512 := rfl
    have z1 : m1 = 0 := by
      rw [e1] at h3
      have := congrArg Int32.toInt h3
      rw [t_of (by omega), show ((0 : Int32)).toInt = 0 from rfl] at this
      omega
    have z2 : m2 = 0 := by
      apply Nat.eq_of_testBit_eq
      intro i
      rw [Nat.zero_testBit]
      by_cases hi : i < (rd N 136 1).toInt.toNat
      · cases q : m2.testBit i with
        | false => rfl
        | true =>
          have := (t1 i hi).mpr (rb c fr i hi ((t2 i hi).mp q))
          rw [z1, Nat.zero_testBit] at this
          exact absurd this (by decide)
      · exact Nat.testBit_lt_two_pow (Nat.lt_of_lt_of_le b2 (Nat.pow_le_pow_right (by decide) (by omega)))
    rw [e2, z2]; rfl
  obtain ⟨r17, e17, eA⟩ := cap_s eA
  obtain ⟨r17', e17', eB⟩ := cap_s eB
  by_cases g17 : r17 = 0
  rotate_left
  · have eA := ite_f g17 eA
    cases eA
    exact absurd (show (4 : Int32) = 0 from z) (by decide)
  have eA := ite_t g17 eA
  have eB := ite_t (none _ _ _ _ e17 e17' g17) eB
  obtain ⟨r21, e21, eA⟩ := cap_s eA
  obtain ⟨r21', e21', eB⟩ := cap_s eB
  by_cases g21 : r21 = 0
  rotate_left
  · have eA := ite_f g21 eA
    cases eA
    exact absurd (show (5 : Int32) = 0 from z) (by decide)
  have eA := ite_t g21 eA
  have eB := ite_t (none _ _ _ _ e21 e21' g21) eB
  obtain ⟨r25, e25, eA⟩ := cap_s eA
  obtain ⟨r25', e25', eB⟩ := cap_s eB
  by_cases g25 : r25 = 0
  rotate_left
  · have eA := ite_f g25 eA
    cases eA
    exact absurd (show (6 : Int32) = 0 from z) (by decide)
  have g25' : r25' = 0 := by
    rcases pc_crsR (by rw [wA 1 (by omega)]; exact lb.1) (by rw [wA 1 (by omega)]; exact lb.2) _ e25 with ⟨u, _⟩ | ⟨_, u⟩
    · rw [u] at g25; exact absurd g25 (by decide)
    · rcases pc_crsR (by rw [wB 1 (by omega)]; exact lb.1) (by rw [wB 1 (by omega)]; exact lb.2) _ e25' with ⟨_, w⟩ | ⟨w, _⟩
      · rw [wA 1 (by omega)] at u
        rw [wB 1 (by omega)] at w
        obtain ⟨i, j, i1, i2, i3⟩ := w
        exact absurd ⟨i, j, i1, i2, i3.pe pe (by omega) i2⟩ u
      · exact w
  have eB := ite_t g25' eB
  cases eB
  rfl
end MB
