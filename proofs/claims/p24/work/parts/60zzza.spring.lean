/-! the spring-back: alike -/
section SPB
variable {n m a b s c l e : Nat} {M M' N N' N0 : Mem} {x x1 x2 v : Int32}
theorem nn_i (v : Int32) : FP.Core.val64 (FP.i2d v) ≠ .nan := by
  have h : FP.Core.DInt v.toInt (FP.i2d v) := FP.Core.i2d_int v
  intro z
  unfold FP.Core.DInt at h
  rw [z] at h
  exact h
theorem nn_m {K : Nat} {x : UInt64} (h : Mg K x) (hK : K ≤ 2047) : FP.Core.val64 x ≠ .nan :=
  (FP.Core.ne_nan x).mpr (by have : x.toNat % 2 ^ 63 < K * 2 ^ 52 := h; have : K * 2 ^ 52 ≤ 2047 * 2 ^ 52 := Nat.mul_le_mul_right _ hK; omega)
theorem cmpk {x y : UInt64} (hx : FP.Core.val64 x ≠ .nan) (hy : FP.Core.val64 y ≠ .nan) : ((0 < (Op.cmpValue (FP.dcmp x y) CmpOp.g)) ↔ FP.Core.dkey y < FP.Core.dkey x) ∧ (((Op.cmpValue (FP.dcmp x y) CmpOp.l) ≤ 0) ↔ FP.Core.dkey x ≤ FP.Core.dkey y) ∧ (((Op.cmpValue (FP.dcmp x y) CmpOp.l) < 0) ↔ FP.Core.dkey x < FP.Core.dkey y) := by
  rcases Int.lt_trichotomy (FP.Core.dkey x) (FP.Core.dkey y) with h | h | h
  · have e : FP.dcmp x y = some .lt := (FP.Core.dcmp_lt_key hx hy).mpr h
    rw [e]
    exact ⟨⟨fun z => absurd z (by decide), fun z => by omega⟩, ⟨fun _ => by omega, fun _ => by decide⟩, ⟨fun _ => h, fun _ => by decide⟩⟩
  · have e : FP.dcmp x y = some .eq := (FP.Core.dcmp_eq_key hx hy).mpr h
    rw [e]
    exact ⟨⟨fun z => absurd z (by decide), fun z => by omega⟩, ⟨fun _ => by omega, fun _ => by decide⟩, ⟨fun z => absurd z (by decide), fun _ => by omega⟩⟩
  · have e : FP.dcmp x y = some .gt := (FP.Core.dcmp_gt_key hx hy).mpr h
    rw [e]
    exact ⟨⟨fun _ => h, fun _ => by decide⟩, ⟨fun z => absurd z (by decide), fun z => by omega⟩, ⟨fun z => absurd z (by decide), fun z => by omega⟩⟩
theorem key_lt {a b : Int32} (h : a.toInt < b.toInt) : FP.Core.dkey (FP.i2d a) < FP.Core.dkey (FP.i2d b) := by
  refine (FP.Core.dcmp_lt_key (nn_i a) (nn_i b)).mp ?_
  refine (FP.Core.dcmp_int (FP.Core.i2d_int a) (FP.Core.i2d_int b)).trans ?_
  rw [Option.some.injEq, Int.compare_eq_lt]; exact h
theorem key_pos {a : Int32} (h : 0 < a.toInt) : 0 < FP.Core.dkey (FP.i2d a) := by
  have := key_lt (a := 0) (b := a) h
  rwa [show FP.Core.dkey (FP.i2d 0) = 0 from by decide +kernel] at this
theorem key_inj {x y : UInt64} (h : 0 < FP.Core.dkey y) (e : FP.Core.dkey x = FP.Core.dkey y) : x = y := by
  have hx := x.toNat_lt
  have hy := y.toNat_lt
  unfold FP.Core.dkey at h e
  apply UInt64.toNat_inj.mp
  split at h <;> split at e <;> omega
theorem i2d_0 : FP.i2d 0 = FP.dconst0 := by decide +kernel
theorem d_subS {a b : Int32} (h1 : -2147483648 ≤ a.toInt - b.toInt) (h2 : a.toInt - b.toInt ≤ 2147483647) : FP.dsub (FP.i2d a) (FP.i2d b) = FP.i2d (a - b) := by
  by_cases e : a.toInt = b.toInt
  · have e : a = b := i_eq.mpr e
    subst e
    rw [Int32.sub_self, i2d_0]
    have h : FP.Core.DInt a.toInt (FP.i2d a) := FP.Core.i2d_int a
    unfold FP.Core.DInt at h
    cases hv : FP.Core.val64 (FP.i2d a) with
    | nan => rw [hv] at h; exact h.elim
    | inf s => rw [hv] at h; exact h.elim
    | fin s c q => exact FP.Core.dsub_self hv
  · exact d_sub h1 h2 e
/-- a whole product divided by its factor -/
theorem d_div {i j : Int} {a b c : UInt64} (hj : 0 < j) (hi : i ≠ 0) (ha : FP.Core.DInt (i * j) a) (hb : FP.Core.DInt j b) (hc : FP.Core.DInt i c) : FP.ddiv a b = c := by
  have fc := FP.Core.val64_fits c
  refine (FP.Core.val64_inj (fun z => ?_) (?_ : FP.Core.val64 c = FP.Core.val64 (FP.ddiv a b))).symm
  · unfold FP.Core.DInt at hc; rw [z] at hc; exact hc
  refine Eq.trans ?_ (FP.Core.val64_ddiv a b).symm
  unfold FP.Core.DInt at ha hb hc
  cases va : FP.Core.val64 a with
  | nan => rw [va] at ha; exact ha.elim
  | inf s => rw [va] at ha; exact ha.elim
  | fin s A q =>
  cases vb : FP.Core.val64 b with
  | nan => rw [vb] at hb; exact hb.elim
  | inf s => rw [vb] at hb; exact hb.elim
  | fin t B r =>
  cases vc : FP.Core.val64 c with
  | nan => rw [vc] at hc; exact hc.elim
  | inf s => rw [vc] at hc; exact hc.elim
  | fin s' C e =>
  rw [va] at ha
  rw [vb] at hb
  rw [vc] at hc fc
  have hij : i * j ≠ 0 := Int.mul_ne_zero hi (by omega)
  have sa := FP.Core.whole_sign ha hij
  have sb := FP.Core.whole_sign hb (by omega)
  have sc := FP.Core.whole_sign hc hi
  have hB0 := FP.Core.whole_zero hb
  have na := FP.Core.whole_natAbs ha
  have nb' := FP.Core.whole_natAbs hb
  have nc := FP.Core.whole_natAbs hc
  have hB : 0 < B := by
    rcases Nat.eq_zero_or_pos B with z | z
    · have := hB0.mp z; omega
    · exact z
  have et : t = false := by rw [sb]; exact decide_eq_false (by omega)
  have es : s = s' := by
    rw [sa, sc]
    by_cases g : i < 0
    · rw [decide_eq_true g, decide_eq_true (Int.mul_neg_of_neg_of_pos g hj)]
    · rw [decide_eq_false g, decide_eq_false (by have := Int.mul_pos (show 0 < i by omega) hj; omega)]
  show FP.Core.Datum.fin s' C e = if B = 0 then (if A = 0 then .nan else .inf (s != t)) else FP.Core.roundRatio FP.Core.b64 (s != t) A B (q - r)
  rw [if_neg (by omega), et, es, show (s' != false) = s' by cases s' <;> rfl]
  refine (FP.Core.roundRatio_exact FP.Core.good_b64 hB fc ?_).symm
  -- the two sides, times a power of two
  have X : A * 2 ^ (q.toNat + (-r).toNat + (-e).toNat) = C * B * 2 ^ (e.toNat + r.toNat + (-q).toNat) := by
    have h1 : A * 2 ^ (q.toNat + (-r).toNat + (-e).toNat) = (A * 2 ^ q.toNat) * (2 ^ (-r).toNat * 2 ^ (-e).toNat) := by simp only [Nat.pow_add]; ac_rfl
    have h2 : C * B * 2 ^ (e.toNat + r.toNat + (-q).toNat) = (C * 2 ^ e.toNat) * (B * 2 ^ r.toNat) * 2 ^ (-q).toNat := by simp only [Nat.pow_add]; ac_rfl
    rw [h1, h2, na, nb', nc, Int.natAbs_mul]; ac_rfl
  have p2 : ∀ k, 0 < 2 ^ k := fun k => Nat.two_pow_pos k
  rcases Nat.le_total (e.toNat + r.toNat + (-q).toNat) (q.toNat + (-r).toNat + (-e).toNat) with g | g
  · have d1 : (q - r - e).toNat + (e.toNat + r.toNat + (-q).toNat) = q.toNat + (-r).toNat + (-e).toNat := by omega
    have d2 : (e - (q - r)).toNat = 0 := by omega
    rw [d2, Nat.pow_zero, Nat.mul_one]
    rw [← d1, Nat.pow_add, ← Nat.mul_assoc] at X
    exact Nat.eq_of_mul_eq_mul_right (p2 _) X
  · have d1 : (e - (q - r)).toNat + (q.toNat + (-r).toNat + (-e).toNat) = e.toNat + r.toNat + (-q).toNat := by omega
    have d2 : (q - r - e).toNat = 0 := by omega
    rw [d2, Nat.pow_zero, Nat.mul_one]
    rw [← d1, Nat.pow_add 2 (e - (q - r)).toNat (q.toNat + (-r).toNat + (-e).toNat), ← Nat.mul_assoc] at X
    exact Nat.eq_of_mul_eq_mul_right (p2 _) X
theorem v00 : FP.Core.val64 FP.dconst0 = .fin false 0 FP.Core.b64.qmin := FP.Core.val64_dconst0
theorem nz_i {v : Int32} : FP.i2d v ≠ FP.Core.dzeroNeg := by
  intro z
  have h : FP.Core.DInt v.toInt (FP.i2d v) := FP.Core.i2d_int v
  unfold FP.Core.DInt at h
  rw [z, FP.Core.val64_dzeroNeg] at h
  have := (FP.Core.whole_zero h).mp rfl
  have e : v = 0 := i_eq.mpr this
  rw [e] at z
  exact absurd z (by decide +kernel)
/-- at a ratio of the table: the angle that stands there -/
theorem d_end {p w d : Int32} (hp : 0 ≤ p.toInt ∧ p.toInt ≤ 999) (hw : 0 ≤ w.toInt ∧ w.toInt ≤ 999) (hd : 0 < d.toInt ∧ d.toInt ≤ 999) : FP.dadd (FP.i2d p) (FP.ddiv (FP.dmul (FP.i2d (w - p)) (FP.i2d d)) (FP.i2d d)) = FP.i2d w := by
  have es : (w - p).toInt = w.toInt - p.toInt := i_sub (by omega) (by omega)
  by_cases e : w.toInt = p.toInt
  · have e : w = p := i_eq.mpr e
    subst e
    rw [Int32.sub_self, i2d_0]
    have h : FP.Core.DInt d.toInt (FP.i2d d) := FP.Core.i2d_int d
    unfold FP.Core.DInt at h
    cases hv : FP.Core.val64 (FP.i2d d) with
    | nan => rw [hv] at h; exact h.elim
    | inf s => rw [hv] at h; exact h.elim
    | fin t B r =>
      rw [hv] at h
      have st := FP.Core.whole_sign h (by omega)
      have et : t = false := by rw [st]; exact decide_eq_false (by omega)
      have hB : ¬ B = 0 := fun z => by have := (FP.Core.whole_zero h).mp z; omega
      subst et
      have m0 : FP.dmul FP.dconst0 (FP.i2d d) = FP.dconst0 := by
        refine (FP.Core.val64_inj (a := FP.dconst0) (by rw [v00]; exact FP.Core.Datum.noConfusion) ?_).symm
        refine Eq.trans ?_ (FP.Core.val64_dmul FP.dconst0 (FP.i2d d)).symm
        rw [hv, v00]
        show _ = FP.Core.roundRatio FP.Core.b64 false (0 * B) 1 _
        unfold FP.Core.roundRatio
        rw [if_pos (Nat.zero_mul B)]
      have v0 : FP.ddiv FP.dconst0 (FP.i2d d) = FP.dconst0 := by
        refine (FP.Core.val64_inj (a := FP.dconst0) (by rw [v00]; exact FP.Core.Datum.noConfusion) ?_).symm
        refine Eq.trans ?_ (FP.Core.val64_ddiv FP.dconst0 (FP.i2d d)).symm
        rw [hv, v00]
        show _ = if B = 0 then (if 0 = 0 then FP.Core.Datum.nan else .inf (false != false)) else FP.Core.roundRatio FP.Core.b64 (false != false) 0 B _
        rw [if_neg hB]
        unfold FP.Core.roundRatio
        rw [if_pos rfl]; rfl
      rw [m0, v0]
      exact FP.Core.dadd_zero (nn_i w) nz_i
  · have hne : (w - p).toInt ≠ 0 := by omega
    have hm : FP.Core.DInt ((w - p).toInt * d.toInt) (FP.dmul (FP.i2d (w - p)) (FP.i2d d)) := by
      refine FP.Core.dmul_int (FP.Core.i2d_int _) (FP.Core.i2d_int _) ?_
      rw [Int.natAbs_mul]
      have h1 : (w - p).toInt.natAbs ≤ 999 := by omega
      have h2 : d.toInt.natAbs ≤ 999 := by omega
      exact Nat.le_trans (Nat.mul_le_mul h1 h2) (by decide)
    rw [d_div hd.1 hne hm (FP.Core.i2d_int d) (FP.Core.i2d_int (w - p))]
    have ew : p + (w - p) = w := by rw [i_eq, i_add (by omega) (by omega)]; omega
    by_cases z : w.toInt = 0
    · -- the sum is zero
      have hpn : p.toInt ≠ 0 := by omega
      have e1 : FP.Core.i2d (w - p) = FP.Core.dneg (FP.Core.i2d p) := by
        refine FP.Core.dint_unique (i := (w - p).toInt) hne (FP.Core.i2d_int _) ?_
        have := FP.Core.dneg_int (FP.Core.i2d_int p)
        rw [show -p.toInt = (w - p).toInt by omega] at this
        exact this
      have e2 : w = 0 := i_eq.mpr z
      have e3 : FP.Core.dadd (FP.Core.i2d p) (FP.Core.i2d (w - p)) = FP.Core.dsub (FP.Core.i2d p) (FP.Core.i2d p) := by rw [e1]; exact (FP.Core.dsub_eq _ _).symm
      have e4 : FP.Core.dsub (FP.Core.i2d p) (FP.Core.i2d p) = FP.i2d (p - p) := d_subS (a := p) (b := p) (by omega) (by omega)
      refine e3.trans (e4.trans ?_)
      rw [Int32.sub_self, e2]
    · refine (d_add (a := p) (b := w - p) (by omega) (by omega) (by omega)).trans ?_
      rw [ew]
end SPB
