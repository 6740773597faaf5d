/-! the table of spring-backs, looked up by both -/
section SPT
variable {n m a b s c l e : Nat} {M M' N N' N0 : Mem} {x1 x2 v : Int32} {x : UInt64}
/-- between the entries j - 1 and j -/
def btw (N : Mem) (x : UInt64) (j : Nat) : UInt64 := FP.dadd (FP.i2d (rd N 136 (21 + 2 * (j - 1)))) (FP.ddiv (FP.dmul (FP.i2d (rd N 136 (21 + 2 * j) - rd N 136 (21 + 2 * (j - 1)))) (FP.dsub x (FP.i2d (rd N 136 (20 + 2 * (j - 1)))))) (FP.i2d (rd N 136 (20 + 2 * j) - rd N 136 (20 + 2 * (j - 1)))))
theorem pc_rat {j : Nat} (hj : j < 8) : Pc (mX7_ratioOf 135 (Int32.ofNat j) N) (fun r => r = FP.i2d (rd N 136 (20 + 2 * j))) := by
  have tj : (Int32.ofNat j).toInt = (j : Int) := t_of (by omega)
  have := (sX7_ratioOf (M := N) (x := Int32.ofNat j) (by omega)).toPc
  rw [tj, show ((j : Int)).toNat = j by omega] at this
  exact this
theorem pc_ang {j : Nat} (hj : j < 8) : Pc (mX7_angleOf 135 (Int32.ofNat j) N) (fun r => r = FP.i2d (rd N 136 (21 + 2 * j))) := by
  have tj : (Int32.ofNat j).toInt = (j : Int) := t_of (by omega)
  have e := (bk_ix (x := Int32.ofNat j) (by omega)).2
  unfold mX7_angleOf
  refine Pc.k (fun _ => Pc.ok ?_)
  rw [i_clamp, e, tj, show (21 + 2 * (j : Int)).toNat = 21 + 2 * j by omega]
theorem ang_b (hI : MI N) {j : Nat} (hj : j < 8) : 0 ≤ (rd N 136 (21 + 2 * j)).toInt ∧ (rd N 136 (21 + 2 * j)).toInt ≤ 999 := by
  have h := hI.1.std 136 (21 + 2 * j)
  have e : stdM 136 (21 + 2 * j) = (0, 999) := by
    have : ∀ j, j < 8 → stdM 136 (21 + 2 * j) = (0, 999) := by decide
    exact this j hj
  rw [e] at h
  exact h
theorem o_dec {j : Nat} (h : 1 ≤ j) (h2 : j < 1000) : Int32.ofNat j - 1 = Int32.ofNat (j - 1) := by
  have tj : (Int32.ofNat j).toInt = (j : Int) := t_of (by omega)
  have n1 : ((1 : Int32)).toInt = 1 := rfl
  rw [i_eq, i_sub (by omega) (by omega), tj, t_of (by omega)]; omega
theorem pc_btwC (h : SS M N) (hl : (rd N 136 19).toInt = (n : Int)) {j : Nat} (h1 : 1 ≤ j) (hj : j < n) : Pc (mX1_springBackBetween 5 (Int32.ofNat (j - 1)) (Int32.ofNat j) x M) (fun r => r = btw N x j) := by
  have bb : 0 ≤ (rd N 136 19).toInt ∧ (rd N 136 19).toInt ≤ 8 := h.1.bb
  have ba : ∀ i, i < n → rd M 8 i = rd N 136 (20 + 2 * i) ∧ rd M 9 i = rd N 136 (21 + 2 * i) := fun i hi => h.1.ba i (by show (i : Int) < (rd N 136 19).toInt; omega)
  have up : (rd N 136 (20 + 2 * (j - 1))).toInt < (rd N 136 (20 + 2 * j)).toInt := by
    have := h.1.bo (j - 1) (by show ((j - 1 : Nat) : Int) + 1 < (rd N 136 19).toInt; omega)
    rw [show 22 + 2 * (j - 1) = 20 + 2 * j by omega] at this
    exact this
  have v1 : 0 ≤ (rd N 136 (20 + 2 * (j - 1))).toInt ∧ (rd N 136 (20 + 2 * (j - 1))).toInt ≤ 999 := h.1.bv (j - 1) (by show ((j - 1 : Nat) : Int) < (rd N 136 19).toInt; omega)
  have v2 : 0 ≤ (rd N 136 (20 + 2 * j)).toInt ∧ (rd N 136 (20 + 2 * j)).toInt ≤ 999 := h.1.bv j (by show (j : Int) < (rd N 136 19).toInt; omega)
  have es : (rd N 136 (20 + 2 * j) - rd N 136 (20 + 2 * (j - 1))).toInt = (rd N 136 (20 + 2 * j)).toInt - (rd N 136 (20 + 2 * (j - 1))).toInt := i_sub (by omega) (by omega)
  unfold mX1_springBackBetween
  rw [c_of (by omega), c_of (by omega)]
  show Pc (chk _ (chk _ (bnd (FP.i2d (rd M 8 j - rd M 8 (j - 1))) _))) _
  rw [(ba j hj).1, (ba (j - 1) (by omega)).1]
  refine Pc.k (fun _ => Pc.k (fun _ => Pc.b (fun w ew => ?_)))
  have pos : 0 < Op.cmpValue (FP.dcmp w FP.dconst0) CmpOp.g := by
    rw [ew]
    refine (cmpk (nn_i _) (by rw [v00]; exact FP.Core.Datum.noConfusion)).1.mpr ?_
    have := key_pos (a := rd N 136 (20 + 2 * j) - rd N 136 (20 + 2 * (j - 1))) (by omega)
    rw [show FP.Core.dkey FP.dconst0 = 0 from by decide +kernel]
    exact this
  refine Pc.i (fun _ => Pc.k (fun _ => Pc.k (fun _ => Pc.b (fun y ey => ?_)))) (fun z => absurd pos z)
  have ey : y = FP.i2d (rd N 136 (21 + 2 * j) - rd N 136 (21 + 2 * (j - 1))) := by
    rw [ey]
    show FP.i2d (rd M 9 j - rd M 9 (j - 1)) = _
    rw [(ba j hj).2, (ba (j - 1) (by omega)).2]
  refine Pc.k (fun _ => Pc.k (fun _ => Pc.k (fun _ => Pc.k (fun _ => Pc.k (fun _ => Pc.k (fun _ => Pc.ok ?_))))))
  show FP.dadd (FP.i2d (rd M 9 (j - 1))) (FP.ddiv (FP.dmul y (FP.dsub x (FP.i2d (rd N 136 (20 + 2 * (j - 1)))))) w) = btw N x j
  rw [(ba (j - 1) (by omega)).2, ey, ew]
  rfl
theorem lastC (h : SS M N) (hl : (rd N 136 19).toInt = (n : Int)) (h1 : 1 ≤ n) : Pc (mX1_springBackAt_b73 5 M) (fun r => r = FP.i2d (rd N 136 (21 + 2 * (n - 1)))) := by
  have bb : 0 ≤ (rd N 136 19).toInt ∧ (rd N 136 19).toInt ≤ 8 := h.1.bb
  have hnb : rd M 5 10 = rd N 136 19 := h.1.nb
  have n1 : ((1 : Int32)).toInt = 1 := rfl
  unfold mX1_springBackAt_b73
  rw [hnb]
  refine Pc.k (fun _ => Pc.ok ?_)
  rw [i_clamp, i_sub (by omega) (by omega), hl, n1, show ((n : Int) - 1).toNat = n - 1 by omega]
  exact congrArg FP.i2d (h.1.ba (n - 1) (by show ((n - 1 : Nat) : Int) < (rd N 136 19).toInt; omega)).2
theorem pc_l31 (h : SS M N) (hl : (rd N 136 19).toInt = (n : Int)) (hn : 1 ≤ n) (hx : FP.Core.val64 x ≠ .nan) : ∀ (f k : Nat), 1 ≤ k → k ≤ n → (∀ i, i < k → FP.Core.dkey (FP.i2d (rd N 136 (20 + 2 * i))) < FP.Core.dkey x) → Pc (mX1_springBackAt_l31 5 M f x (Int32.ofNat k)) (fun r => (∃ j, 1 ≤ j ∧ j < n ∧ FP.Core.dkey x ≤ FP.Core.dkey (FP.i2d (rd N 136 (20 + 2 * j))) ∧ (∀ i, i < j → FP.Core.dkey (FP.i2d (rd N 136 (20 + 2 * i))) < FP.Core.dkey x) ∧ r = btw N x j) ∨ ((∀ i, i < n → FP.Core.dkey (FP.i2d (rd N 136 (20 + 2 * i))) < FP.Core.dkey x) ∧ r = FP.i2d (rd N 136 (21 + 2 * (n - 1))))) := by
  have bb : 0 ≤ (rd N 136 19).toInt ∧ (rd N 136 19).toInt ≤ 8 := h.1.bb
  have hnb : rd M 5 10 = rd N 136 19 := h.1.nb
  have n8 : ((8 : Int32)).toInt = 8 := rfl
  intro f
  induction f with
  | zero => intro k _ _ _; exact Pc.n
  | succ f IH =>
    intro k h1 hk hb
    unfold mX1_springBackAt_l31 mX1_springBackAt_b31
    have tk : (Int32.ofNat k).toInt = (k : Int) := t_of (by omega)
    rw [hnb]
    refine Pc.i (fun c => ?_) (fun c => Pc.i (fun c2 => ?_) (fun c2 => Pc.k (fun _ => ?_)))
    · have c := i_le.mp c
      have e : k = n := by omega
      exact (lastC h hl hn).mono (fun r hr => Or.inr ⟨fun i hi => hb i (by omega), hr⟩)
    · have c := i_nle c; have c2 := i_le.mp c2; exfalso; omega
    have c := i_nle c
    have hkn : k < n := by omega
    rw [c_of (by omega), show rd M (5 + 3) k = rd N 136 (20 + 2 * k) from (h.1.ba k (by show (k : Int) < (rd N 136 19).toInt; omega)).1]
    have hc := cmpk hx (nn_i (rd N 136 (20 + 2 * k)))
    refine Pc.i (fun d => Pc.b (fun k' ek => ?_)) (fun d => ?_)
    · rw [ek, o_inc (by omega)]
      refine IH (k + 1) (by omega) (by omega) (fun i hi => ?_)
      by_cases q : i = k
      · rw [q]; exact hc.1.mp d
      · exact hb i (by omega)
    · rw [o_dec h1 (by omega)]
      refine Pc.c (pc_btwC h hl h1 hkn) (fun r er => Pc.ok (Or.inl ⟨k, h1, hkn, ?_, hb, er⟩))
      have : ¬ FP.Core.dkey (FP.i2d (rd N 136 (20 + 2 * k))) < FP.Core.dkey x := fun z => d (hc.1.mpr z)
      omega
theorem pc_l53 (h : SS M N) (hl : (rd N 136 19).toInt = (n : Int)) (hx : FP.Core.val64 x ≠ .nan) (hlast : FP.Core.dkey x < FP.Core.dkey (FP.i2d (rd N 136 (20 + 2 * (n - 1))))) (hI : MI N) : ∀ (f k : Nat), 1 ≤ k → k < n → (∀ i, i < k → FP.Core.dkey (FP.i2d (rd N 136 (20 + 2 * i))) < FP.Core.dkey x) → Pc (mX7_springBy_l53 135 N f x (Int32.ofNat k)) (fun r => ∃ j, 1 ≤ j ∧ j < n ∧ FP.Core.dkey x ≤ FP.Core.dkey (FP.i2d (rd N 136 (20 + 2 * j))) ∧ (∀ i, i < j → FP.Core.dkey (FP.i2d (rd N 136 (20 + 2 * i))) < FP.Core.dkey x) ∧ r = btw N x j) := by
  have bb : 0 ≤ (rd N 136 19).toInt ∧ (rd N 136 19).toInt ≤ 8 := h.1.bb
  intro f
  induction f with
  | zero => intro k _ _ _; exact Pc.n
  | succ f IH =>
    intro k h1 hk hb
    unfold mX7_springBy_l53 mX7_springBy_b53
    have hc := cmpk hx (nn_i (rd N 136 (20 + 2 * k)))
    refine Pc.c (pc_rat (by omega)) (fun r13 e13 => ?_)
    rw [e13]
    refine Pc.i (fun d => ?_) (fun d => Pc.b (fun k' ek => ?_))
    rotate_left
    · have d' : FP.Core.dkey (FP.i2d (rd N 136 (20 + 2 * k))) < FP.Core.dkey x := by
        have : ¬ FP.Core.dkey x ≤ FP.Core.dkey (FP.i2d (rd N 136 (20 + 2 * k))) := fun z => d (hc.2.1.mpr z)
        omega
      have kn : k ≠ n - 1 := fun z => by rw [z] at d'; omega
      rw [ek, o_inc (by omega)]
      refine IH (k + 1) (by omega) (by omega) (fun i hi => ?_)
      by_cases q : i = k
      · rw [q]; exact d'
      · exact hb i (by omega)
    have up : (rd N 136 (20 + 2 * (k - 1))).toInt < (rd N 136 (20 + 2 * k)).toInt := by
      have := h.1.bo (k - 1) (by show ((k - 1 : Nat) : Int) + 1 < (rd N 136 19).toInt; omega)
      rw [show 22 + 2 * (k - 1) = 20 + 2 * k by omega] at this
      exact this
    have v1 : 0 ≤ (rd N 136 (20 + 2 * (k - 1))).toInt ∧ (rd N 136 (20 + 2 * (k - 1))).toInt ≤ 999 := h.1.bv (k - 1) (by show ((k - 1 : Nat) : Int) < (rd N 136 19).toInt; omega)
    have v2 : 0 ≤ (rd N 136 (20 + 2 * k)).toInt ∧ (rd N 136 (20 + 2 * k)).toInt ≤ 999 := h.1.bv k (by show (k : Int) < (rd N 136 19).toInt; omega)
    have w1 := ang_b hI (j := k) (by omega)
    have w2 := ang_b hI (j := k - 1) (by omega)
    rw [o_dec h1 (by omega)]
    refine Pc.c (pc_ang (by omega)) (fun r17 e17 => Pc.c (pc_ang (by omega)) (fun r20 e20 => Pc.c (pc_ang (by omega)) (fun r23 e23 => Pc.k (fun _ => Pc.c (pc_rat (by omega)) (fun r27 e27 => Pc.k (fun _ => Pc.k (fun _ => Pc.c (pc_rat (by omega)) (fun r32 e32 => Pc.c (pc_rat (by omega)) (fun r35 e35 => Pc.k (fun _ => Pc.k (fun _ => Pc.k (fun _ => Pc.ok ⟨k, h1, hk, hc.2.1.mp d, hb, ?_⟩))))))))))))
    rw [e17, e20, e23, e27, e32, e35, d_subS (a := rd N 136 (21 + 2 * k)) (b := rd N 136 (21 + 2 * (k - 1))) (by omega) (by omega), d_subS (a := rd N 136 (20 + 2 * k)) (b := rd N 136 (20 + 2 * (k - 1))) (by omega) (by omega)]
    rfl
theorem spring_R (h : SS M N) (hI : MI N) (hx : FP.Core.val64 x ≠ .nan) : R2 (mX1_springBackAt 5 x M) (mX7_springBy 135 x N) (fun r q => r = q) := by
  have bb : 0 ≤ (rd N 136 19).toInt ∧ (rd N 136 19).toInt ≤ 8 := h.1.bb
  have hnb : rd M 5 10 = rd N 136 19 := h.1.nb
  obtain ⟨n, hl⟩ : ∃ n : Nat, (rd N 136 19).toInt = (n : Int) := ⟨(rd N 136 19).toInt.toNat, by omega⟩
  have n0 : ((0 : Int32)).toInt = 0 := rfl
  have n1 : ((1 : Int32)).toInt = 1 := rfl
  unfold mX1_springBackAt mX7_springBy
  rw [hnb]
  refine R2.kr (fun _ => R2.br (fun y ey => ?_))
  have ey : y = rd N 136 19 := ey
  rw [ey]
  refine R2.il (fun c => R2.ir (fun _ => R2.ok rfl) (fun c2 => absurd c c2)) (fun c => R2.ir (fun c2 => absurd c2 c) (fun _ => R2.kl (fun _ => ?_)))
  have hn : 1 ≤ n := by
    rcases Nat.eq_zero_or_pos n with z | z
    · exact absurd (i_eq.mpr (by rw [hl, z]; rfl)) c
    · exact z
  have ba : ∀ i, i < n → rd M 8 i = rd N 136 (20 + 2 * i) ∧ rd M 9 i = rd N 136 (21 + 2 * i) := fun i hi => h.1.ba i (by show (i : Int) < (rd N 136 19).toInt; omega)
  have el : rd N 136 19 - (1 : Int32) = Int32.ofNat (n - 1) := by rw [i_eq, i_sub (by omega) (by omega), hl, n1, t_of (by omega)]; omega
  refine R2.cr (pc_rat (j := 0) (by omega)) (fun r5 e5 => ?_)
  rw [e5, el]
  show R2 (ite2 (0 < Op.cmpValue (FP.dcmp x (FP.i2d (rd M 8 0))) CmpOp.g) _ _) _ _
  rw [(ba 0 (by omega)).1]
  have h0 := cmpk hx (nn_i (rd N 136 (20 + 2 * 0)))
  refine R2.il (fun d => R2.ir (fun _ => ?_) (fun d2 => absurd d d2)) (fun d => R2.ir (fun d2 => absurd d2 d) (fun _ => R2.kl (fun _ => R2.cr (pc_ang (j := 0) (by omega)) (fun r e => R2.ok ?_))))
  rotate_left
  · rw [e]; exact congrArg FP.i2d (ba 0 (by omega)).2
  have hb : ∀ i, i < 1 → FP.Core.dkey (FP.i2d (rd N 136 (20 + 2 * i))) < FP.Core.dkey x := fun i hi => by
    have : i = 0 := by omega
    subst this; exact h0.1.mp d
  refine R2.cr (pc_rat (j := n - 1) (by omega)) (fun r9 e9 => ?_)
  rw [e9]
  have hz := cmpk hx (nn_i (rd N 136 (20 + 2 * (n - 1))))
  refine R2.ir (fun d9 => ?_) (fun d9 => ?_)
  · -- below the last ratio
    have d9 := hz.2.2.mp d9
    have n2 : 1 < n := by
      rcases Nat.lt_or_ge 1 n with z | z
      · exact z
      · have : n - 1 = 0 := by omega
        rw [this] at d9
        have := h0.1.mp d
        omega
    intro r q hr hq
    obtain ⟨j', a1, a2, a3, a4, a5⟩ := pc_l53 h hl hx d9 hI 5000 1 (by omega) n2 hb q hq
    rcases pc_l31 h hl hn hx 5000 1 (by omega) hn hb r hr with ⟨j, b1, b2, b3, b4, b5⟩ | ⟨b1, _⟩
    · have : j = j' := by
        rcases Nat.lt_trichotomy j j' with z | z | z
        · have := a4 j z; omega
        · exact z
        · have := b4 j' z; omega
      rw [a5, b5, this]
    · have := b1 (n - 1) (by omega); omega
  · -- from the last ratio on
    have d9 : FP.Core.dkey (FP.i2d (rd N 136 (20 + 2 * (n - 1)))) ≤ FP.Core.dkey x := by
      have : ¬ FP.Core.dkey x < FP.Core.dkey (FP.i2d (rd N 136 (20 + 2 * (n - 1)))) := fun z => d9 (hz.2.2.mpr z)
      omega
    refine R2.cr (pc_ang (j := n - 1) (by omega)) (fun q eq => ?_)
    rw [eq]
    intro r q hr hq
    cases hq
    rcases pc_l31 h hl hn hx 5000 1 (by omega) hn hb r hr with ⟨j, b1, b2, b3, b4, b5⟩ | ⟨_, b2⟩
    rotate_left
    · exact b2
    have up : ∀ i, i + 1 < n → (rd N 136 (20 + 2 * i)).toInt < (rd N 136 (20 + 2 * (i + 1))).toInt := fun i hi => by
      have := h.1.bo i (by show (i : Int) + 1 < (rd N 136 19).toInt; omega)
      rw [show 22 + 2 * i = 20 + 2 * (i + 1) by omega] at this
      exact this
    have mono : ∀ d i, i + d < n → 0 < d → (rd N 136 (20 + 2 * i)).toInt < (rd N 136 (20 + 2 * (i + d))).toInt := by
      intro d
      induction d with
      | zero => intro i _ h; omega
      | succ d IHd =>
        intro i hi _
        rcases Nat.eq_zero_or_pos d with z | z
        · rw [z]; exact up i (by omega)
        · have h1 := IHd i (by omega) z
          have h2 := up (i + d) (by omega)
          rw [show i + d + 1 = i + (d + 1) by omega] at h2
          omega
    have ej : j = n - 1 := by
      rcases Nat.lt_or_ge j (n - 1) with z | z
      · have := mono (n - 1 - j) j (by omega) (by omega)
        rw [show j + (n - 1 - j) = n - 1 by omega] at this
        have := key_lt this
        omega
      · omega
    subst ej
    have ek : FP.Core.dkey x = FP.Core.dkey (FP.i2d (rd N 136 (20 + 2 * (n - 1)))) := by omega
    have u := up (n - 2) (by omega)
    rw [show n - 2 + 1 = n - 1 by omega] at u
    have v1 : 0 ≤ (rd N 136 (20 + 2 * (n - 2))).toInt ∧ (rd N 136 (20 + 2 * (n - 2))).toInt ≤ 999 := h.1.bv (n - 2) (by show ((n - 2 : Nat) : Int) < (rd N 136 19).toInt; omega)
    have v2 : 0 ≤ (rd N 136 (20 + 2 * (n - 1))).toInt ∧ (rd N 136 (20 + 2 * (n - 1))).toInt ≤ 999 := h.1.bv (n - 1) (by show ((n - 1 : Nat) : Int) < (rd N 136 19).toInt; omega)
    have exx : x = FP.i2d (rd N 136 (20 + 2 * (n - 1))) := key_inj (key_pos (by omega)) ek
    show r = FP.i2d (rd N 136 (21 + 2 * (n - 1)))
    rw [b5, exx]
    unfold btw
    have es : (rd N 136 (20 + 2 * (n - 1)) - rd N 136 (20 + 2 * (n - 2))).toInt = (rd N 136 (20 + 2 * (n - 1))).toInt - (rd N 136 (20 + 2 * (n - 2))).toInt := i_sub (by omega) (by omega)
    rw [show n - 1 - 1 = n - 2 by omega, d_subS (a := rd N 136 (20 + 2 * (n - 1))) (b := rd N 136 (20 + 2 * (n - 2))) (by omega) (by omega)]
    exact d_end (ang_b hI (by omega)) (ang_b hI (by omega)) (by omega)
theorem an_springBack (h : SS M N) (hI : MI N) : R2 (mX6_springBack 0 M) (mX7_springBack 135 N) (fun r q => r = q.2) := by
  unfold mX6_springBack mX7_springBack
  refine R2.br (fun N1 e1 => ?_)
  have hT : SS M N1 := by rw [e1]; exact h.th
  have hI1 : MI N1 := by rw [e1]; exact hI.th.1
  obtain ⟨s1, s2, s3⟩ := hT.1.sh
  refine R2.cc ((rat_R (N := N1) s1 s2 (sheet_b hI1).1).lP sX1_ratioOfSheet.toPc) (fun r q e => ?_)
  obtain ⟨e, hm⟩ := e
  subst e
  exact R2.cc (spring_R hT hI1 (nn_m hm (by decide))) (fun r q e => R2.ok e)
theorem an_springBackFor (h : SS M N) (hI : MI N) (hm : Mg 1070 x) : R2 (mX6_springBackFor 0 x M) (mX7_springBackFor 135 x N) (XR (fun _ => 1)) := by
  have bad : R2 (mX6_springBackFor_b18 0 x M) (mX7_springBackFor_b19 135 x N) (XR (fun _ => 1)) := by
    unfold mX6_springBackFor_b18 mX6_springBackFor_b19 mX7_springBackFor_b19 mX7_springBackFor_b20
    exact R2.il (fun _ => (R2.bad1 (num := fun _ => 1) rfl rfl h).mono (fun p q z => z.1)) (fun z => absurd rfl z)
  unfold mX6_springBackFor mX7_springBackFor
  refine R2.il (fun c => R2.ir (fun _ => bad) (fun z => absurd c z)) (fun c => R2.ir (fun z => absurd z c) (fun _ => R2.il (fun c => R2.ir (fun _ => bad) (fun z => absurd c z)) (fun c => R2.ir (fun z => absurd z c) (fun _ => ?_))))
  unfold mX6_springBackFor_b19 mX7_springBackFor_b20
  refine R2.il (fun z => absurd z (by decide)) (fun _ => R2.ok1 (by decide) ?_)
  exact R2.cc (spring_R h.th hI.th.1 (nn_m hm (by decide))) (fun r q e => R2.ok (XR.inl rd_we e))
end SPT
