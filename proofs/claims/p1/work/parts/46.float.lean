/-! doubles that are not NaN -/
def fGood : FP.Core.Datum → Prop
  | .nan => False
  | .inf _ => True
  | .fin _ c q => c < 9007199254740992 ∧ -1074 ≤ q ∧ q ≤ 971
theorem ft_t : FP.Core.b64.tails = 4503599627370496 := by decide
theorem ft_e : FP.Core.b64.exps = 2048 := by decide
theorem ft_l : FP.Core.b64.qmin = -1074 := by decide
theorem ft_h : FP.Core.b64.qmax = 971 := by decide
theorem fe_enc {d : FP.Core.Datum} (h : fGood d) : FP.Core.encode FP.Core.b64 d < 18446744073709551616 ∧ FP.Core.encode FP.Core.b64 d % 9223372036854775808 ≤ 9218868437227405312 := by
  match d, h with
  | .inf s, _ =>
    show FP.Core.assemble FP.Core.b64 s (FP.Core.b64.exps - 1) 0 < _ ∧ FP.Core.assemble FP.Core.b64 s (FP.Core.b64.exps - 1) 0 % _ ≤ _
    cases s <;> decide
  | .fin s c q, ⟨h1, h2, h3⟩ =>
    show (if c < FP.Core.b64.tails then FP.Core.assemble FP.Core.b64 s 0 c else FP.Core.assemble FP.Core.b64 s ((q - FP.Core.b64.qmin).toNat + 1) (c - FP.Core.b64.tails)) < _ ∧ (if c < FP.Core.b64.tails then FP.Core.assemble FP.Core.b64 s 0 c else FP.Core.assemble FP.Core.b64 s ((q - FP.Core.b64.qmin).toNat + 1) (c - FP.Core.b64.tails)) % _ ≤ _
    unfold FP.Core.assemble
    rw [ft_t, ft_e, ft_l]
    have hs : s.toNat ≤ 1 := by cases s <;> decide
    split <;> omega
theorem fe_n64 {n : Nat} (h : n < 18446744073709551616 ∧ n % 9223372036854775808 ≤ 9218868437227405312) : n64b (UInt64.ofNat n) = true := by
  unfold n64b
  refine decide_eq_true ?_
  rw [UInt64.le_iff_toNat_le, UInt64.toNat_and]
  have h1 : (0x7fffffffffffffff : UInt64).toNat = 2 ^ 63 - 1 := by decide
  have h2 : (0x7ff0000000000000 : UInt64).toNat = 9218868437227405312 := by decide
  rw [h1, h2, Nat.and_two_pow_sub_one_eq_mod, UInt64.toNat_ofNat']
  have h3 : (2 : Nat) ^ 64 = 18446744073709551616 := by decide
  have h4 : (2 : Nat) ^ 63 = 9223372036854775808 := by decide
  rw [h3, h4, Nat.mod_eq_of_lt h.1]
  exact h.2
theorem fr_ratio (s : Bool) (num den : Nat) (e : Int) : fGood (FP.Core.roundRatio FP.Core.b64 s num den e) := by
  unfold FP.Core.roundRatio
  split
  · rw [ft_l]; exact ⟨by decide, by decide, by decide⟩
  · unfold FP.Core.roundAt FP.Core.settle FP.Core.bound
    have hq : -1074 ≤ FP.Core.quantum FP.Core.b64 num den e := by unfold FP.Core.quantum; rw [ft_l]; omega
    rw [ft_t, ft_h]
    have hp : (2 : Nat) ^ FP.Core.b64.p = 9007199254740992 := by decide
    rw [hp]
    split
    · split
      · exact ⟨by assumption, hq, by assumption⟩
      · trivial
    · split
      · exact ⟨by decide, by omega, by assumption⟩
      · trivial
theorem fr_round {d : FP.Core.Datum} (h : d ≠ .nan) : fGood (FP.Core.round FP.Core.b64 d) := by
  match d, h with
  | .nan, h => exact absurd rfl h
  | .inf _, _ => trivial
  | .fin s c q, _ => exact fr_ratio s c 1 q
theorem fd_dec {n : Nat} (h : n % 9223372036854775808 ≤ 9218868437227405312) : FP.Core.decode FP.Core.b64 n ≠ .nan := by
  unfold FP.Core.decode FP.Core.fieldE FP.Core.fieldT
  rw [ft_t, ft_e]
  split
  · split
    · exact fun q => by cases q
    · omega
  · split <;> exact fun q => by cases q
theorem fi_i2d (a : Int32) : n64b (FP.i2d a) = true ∧ (FP.i2d a).toNat % 9223372036854775808 ≤ 9218868437227405312 := by
  have h := fe_enc (fr_round (d := FP.Core.ofInt a.toInt) (fun q => by cases q))
  refine ⟨fe_n64 h, ?_⟩
  show (UInt64.ofNat (FP.Core.encode FP.Core.b64 (FP.Core.round FP.Core.b64 (FP.Core.ofInt a.toInt)))).toNat % _ ≤ _
  rw [UInt64.toNat_ofNat', show (2 : Nat) ^ 64 = 18446744073709551616 from by decide, Nat.mod_eq_of_lt h.1]
  exact h.2
theorem fm_const {a b : UInt64} {s : Bool} {c : Nat} {q : Int} (ha : a.toNat % 9223372036854775808 ≤ 9218868437227405312) (hb : FP.Core.decode FP.Core.b64 b.toNat = .fin s c q) (hc : c ≠ 0) : n64b (FP.dmul a b) = true := by
  refine fe_n64 (fe_enc (fr_round ?_))
  rw [hb]
  have h := fd_dec ha
  match hd : FP.Core.decode FP.Core.b64 a.toNat, h with
  | .nan, h => exact absurd rfl h
  | .inf t, _ =>
    show (if c = 0 then FP.Core.Datum.nan else .inf (t != s)) ≠ .nan
    rw [if_neg hc]
    exact fun q => by cases q
  | .fin _ _ _, _ => exact fun q => by cases q
theorem fm_eighth (a : Int32) : n64b (FP.dmul (FP.i2d a) (4593671619917905920 : UInt64)) = true :=
  fm_const (s := false) (c := 4503599627370496) (q := -55) (fi_i2d a).2 (by decide) (by decide)
