/-! the class's doubles: no NaN -/
theorem pX_throw {ρ : Type} {f : Bx} {R : ρ → Prop} {es : List Nat} {q : Mem × (ρ ⊕ Nat)} (h : pX f (fun _ => False) es q) : pX f R es q := by
  obtain ⟨M, r⟩ := q
  cases r with
  | inl r => exact absurd h.2 id
  | inr e => exact ⟨h.1, h.2⟩
theorem n64_of {K : Nat} {x : UInt64} (h : Mg K x) (hK : K ≤ 2047) : n64b x = true := by
  unfold n64b
  refine decide_eq_true ?_
  rw [UInt64.le_iff_toNat_le, UInt64.toNat_and]
  have h1 : (0x7fffffffffffffff : UInt64).toNat = 2 ^ 63 - 1 := by decide
  have h2 : (0x7ff0000000000000 : UInt64).toNat = 2047 * 2 ^ 52 := by decide
  rw [h1, h2, Nat.and_two_pow_sub_one_eq_mod]
  exact Nat.le_of_lt (h.up hK)
theorem mg_2 : Mg 1025 (4611686018427387904 : UInt64) := by unfold Mg; decide
theorem mg_100 : Mg 1030 (4636737291354636288 : UInt64) := by unfold Mg; decide
theorem mg_100b : 1029 * 2 ^ 52 ≤ (4636737291354636288 : UInt64).toNat % 2 ^ 63 := by decide
theorem mg_pi : Mg 1024 (4609753073467320487 : UInt64) := by unfold Mg; decide
theorem mg_half : Mg 1023 (4602678819172646912 : UInt64) := by unfold Mg; decide
theorem mg_10 : Mg 1027 (4621819117588971520 : UInt64) := by unfold Mg; decide
theorem mg_8th : Mg 1021 (4593671619917905920 : UInt64) := by unfold Mg; decide
theorem mg_0 : Mg 1 FP.dconst0 := by unfold Mg; decide
theorem mg_i (v : Int32) : Mg 1056 (FP.i2d v) := Mg.i2d v
theorem mg_arg (a : Int32) : Mg 1055 (FP.dmul (FP.i2d a) (4593671619917905920 : UInt64)) := (mg_i a).mul mg_8th (by decide) (by decide) (by decide)
theorem d_pos {v : Int32} (h : 0 < Op.cmpValue (FP.dcmp (FP.i2d v) FP.dconst0) CmpOp.g) : v.toInt ≠ 0 := by
  intro e
  have e2 : v = 0 := i_eq.mpr (by rw [e]; rfl)
  subst e2
  exact absurd h (by decide +kernel)
section DD
variable {f : Bx} {k0 : Nat} {M : Mem}
theorem sX1_deductionOfBend : Sf (mX1_deductionOfBend k0 M) (Mg 1100) := by
  unfold mX1_deductionOfBend
  have a1 := mg_2.mul (mg_i (rd M k0 4 + rd M k0 3)) (K := 1059) (by decide) (by decide) (by decide)
  have a2 := (mg_i (rd M k0 5)).div (K' := 1051) mg_100b (mg_100.up (by decide)) (by decide) (by decide) (by decide)
  have a3 := a2.mul (mg_i (rd M k0 3)) (K := 1085) (by decide) (by decide) (by decide)
  have a4 := ((mg_i (rd M k0 4)).up (K' := 1085) (by decide)).add a3 (K' := 1087) (by decide) (by decide)
  have a5 := mg_pi.mul a4 (K := 1089) (by decide) (by decide) (by decide)
  have a6 := (a1.up (K' := 1089) (by decide)).sub a5 (K' := 1091) (by decide) (by decide)
  refine Sf.k (n64_of a1 (by decide)) (Sf.k (n64_of a2 (by decide)) (Sf.k (n64_of a3 (by decide)) (Sf.k (n64_of a4 (by decide)) (Sf.k (n64_of a5 (by decide)) (Sf.k (n64_of a6 (by decide)) (Sf.ok ?_))))))
  exact a6.up (by decide)
theorem sX1_ratioOfSheet : Sf (mX1_ratioOfSheet k0 M) (Mg 1070) := by
  unfold mX1_ratioOfSheet
  refine Sf.i (fun _ => Sf.ok (mg_0.up (by decide))) (fun c => ?_)
  have c := i_nle c
  rw [show ((0 : Int32)).toInt = 0 from rfl] at c
  have a1 := mg_10.mul (mg_i (rd M k0 4)) (K := 1061) (by decide) (by decide) (by decide)
  have a2 := a1.div (K' := 1062) (Mg.big (v := rd M k0 3) (by omega)) ((mg_i _).up (by decide)) (by decide) (by decide) (by decide)
  exact Sf.k (n64_of a1 (by decide)) (Sf.k (n64_of a2 (by decide)) (Sf.ok (a2.up (by decide))))
theorem sX1_springBackBetween {x1 x2 : Int32} {x3 : UInt64} (h1 : 0 ≤ x1.toInt ∧ x1.toInt ≤ 7) (h2 : 0 ≤ x2.toInt ∧ x2.toInt ≤ 7) (h3 : Mg 1070 x3) : Sf (mX1_springBackBetween k0 x1 x2 x3 M) (Mg 1110) := by
  unfold mX1_springBackBetween
  have o1 : okb x1 8 = true := ok_in (by omega) (by omega)
  have o2 : okb x2 8 = true := ok_in (by omega) (by omega)
  refine Sf.k o2 (Sf.k o1 (Sf.b (fun w ew => Sf.i (fun c => ?_) (fun _ => Sf.k o1 (Sf.ok ((mg_i _).up (by decide)))))))
  refine Sf.k o2 (Sf.k o1 (Sf.b (fun v ev => Sf.k o1 (Sf.k o1 ?_))))
  subst ew
  subst ev
  have hv := d_pos c
  have a1 := h3.sub ((mg_i (rd M (k0 + 3) x1.toNatClampNeg)).up (K' := 1070) (by decide)) (K' := 1072) (by decide) (by decide)
  have a2 := (mg_i (rd M (k0 + 4) x2.toNatClampNeg - rd M (k0 + 4) x1.toNatClampNeg)).mul a1 (K := 1106) (by decide) (by decide) (by decide)
  have a3 := a2.div (K' := 1107) (Mg.big hv) ((mg_i _).up (by decide)) (by decide) (by decide) (by decide)
  have a4 := ((mg_i (rd M (k0 + 4) x1.toNatClampNeg)).up (K' := 1107) (by decide)).add a3 (K' := 1109) (by decide) (by decide)
  exact Sf.k (n64_of a1 (by decide)) (Sf.k (n64_of a2 (by decide)) (Sf.k (n64_of a3 (by decide)) (Sf.k (n64_of a4 (by decide)) (Sf.ok (a4.up (by decide))))))
theorem sX1_springBackAt_b73 (hk : isP k0) (h_M : OKb f M) (hn : ¬ (rd M k0 10).toInt = 0) : Sf (mX1_springBackAt_b73 k0 M) (Mg 1110) := by
  unfold mX1_springBackAt_b73
  have b : (0 : Int) ≤ (rd M k0 10).toInt ∧ (rd M k0 10).toInt ≤ 8 := h_M.at (bx_P0 hk)
  have n1 : ((1 : Int32)).toInt = 1 := rfl
  have e := i_sub (a := rd M k0 10) (b := 1) (by omega) (by omega)
  exact Sf.k (ok_in (by omega) (by omega)) (Sf.ok ((mg_i _).up (by decide)))
theorem sX1_springBackAt_l31 (hk : isP k0) (h_M : OKb f M) (hn : ¬ (rd M k0 10).toInt = 0) : ∀ (n : Nat) (x1 : UInt64) (x3 : Int32) (_ : Mg 1070 x1) (_ : 1 ≤ x3.toInt ∧ x3.toInt ≤ 8) (_ : 9 - x3.toInt < n), Sf (mX1_springBackAt_l31 k0 M n x1 x3) (Mg 1110) := by
  intro n
  induction n with
  | zero => intro x1 x3 _ h hmu; exfalso; omega
  | succ n IH =>
    intro x1 x3 h1 h3 hmu
    show Sf (mX1_springBackAt_b31 k0 M (mX1_springBackAt_l31 k0 M n) x1 x3) _
    unfold mX1_springBackAt_b31
    have n1 : ((1 : Int32)).toInt = 1 := rfl
    have n8 : ((8 : Int32)).toInt = 8 := rfl
    refine Sf.i (fun _ => sX1_springBackAt_b73 hk h_M hn) (fun _ => Sf.i (fun _ => sX1_springBackAt_b73 hk h_M hn) (fun c => ?_))
    have c := i_nle c
    refine Sf.k (ok_in (by omega) (by omega)) (Sf.i (fun _ => Sf.b (fun v ev => ?_)) (fun _ => ?_))
    · have e := i_add (a := x3) (b := 1) (by omega) (by omega)
      rw [← ev] at e
      exact IH x1 v h1 (by omega) (by omega)
    · have e := i_sub (a := x3) (b := 1) (by omega) (by omega)
      exact Sf.c (sX1_springBackBetween (by omega) (by omega) h1) (fun r hr => Sf.ok hr)
theorem sX1_springBackAt {x1 : UInt64} (hk : isP k0) (h_M : OKb f M) (h1 : Mg 1070 x1) : Sf (mX1_springBackAt k0 x1 M) (Mg 1110) := by
  unfold mX1_springBackAt
  refine Sf.i (fun _ => Sf.ok (mg_0.up (by decide))) (fun c => Sf.k (by decide) (Sf.i (fun _ => ?_) (fun _ => Sf.k (by decide) (Sf.ok ((mg_i _).up (by decide))))))
  exact sX1_springBackAt_l31 hk h_M (i_ne c) 5000 x1 1 h1 (by decide) (by decide)
end DD
