/-! a side laid alike -/
section WS2
variable {M N M0 N0 : Mem} {f : Nat → Int32} {k k1 : Nat}
/-- the class lays a leg: up to where it turns -/
theorem pc_b108 {ih : Int32 → Int32 → Int32 → Int32 → Int32 → Int32 → Int32 → Int32 → Mem → Option (Mem × Unit)} {x3 x5 x6 x7 x8 x9 x10 v w : Int32} {l : Nat} (hl : l < 9) {P : Mem × Unit → Prop}
    (h : ∀ M', KS (SPl k) M M' → (∀ c j, j ≠ l → rd M' c j = rd M c j) → rd M' (k + 1) l = rd M (k + 1) l → rd M' (k + 2) l = v + w → rd M' (k + 3) l = imin x8 (rd M (k + 1) l) → rd M' (k + 4) l = imax x8 (rd M (k + 1) l) → rd M' (k + 5) l = imin x9 (v + w) → rd M' (k + 6) l = imax x9 (v + w) → Pc (ite2 (x3 ≤ 0) (mX2_walk_b217 k k1 ih x3 x5 x6 x7 (rd M (k + 1) l) (v + w) x10 (Int32.ofNat l) (Int32.ofNat l - (1 : Int32)) M') (mX2_walk_b217 k k1 ih x3 x5 x6 x7 (rd M (k + 1) l) (v + w) x10 (Int32.ofNat l) (Int32.ofNat l) M')) P) :
    Pc (mX2_walk_b108 k k1 ih x3 x5 x6 x7 x8 x9 x10 (Int32.ofNat l) (Int32.ofNat l) v w M) P := by
  unfold mX2_walk_b108
  have cl := c_of (a := l) (by omega)
  rw [cl]
  refine Pc.k (fun _ => Pc.b (fun M15 e15 => Pc.k (fun _ => Pc.k (fun _ => Pc.b (fun M19 e19 => Pc.k (fun _ => Pc.k (fun _ => Pc.b (fun M23 e23 => Pc.k (fun _ => Pc.k (fun _ => Pc.b (fun M27 e27 => Pc.k (fun _ => Pc.k (fun _ => Pc.b (fun M31 e31 => Pc.k (fun _ => Pc.b (fun x ex => Pc.k (fun _ => Pc.b (fun y ey => ?_))))))))))))))))))
  have f15 : rd M15 (k + 1) l = rd M (k + 1) l := by rw [e15, rd_wk (by omega)]
  have g15 : rd M15 (k + 2) l = v + w := by rw [e15, rd_we]
  rw [f15] at e19
  have f19 : rd M19 (k + 1) l = rd M (k + 1) l := by rw [e19, rd_wk (by omega)]; exact f15
  have g19 : rd M19 (k + 2) l = v + w := by rw [e19, rd_wk (by omega)]; exact g15
  rw [f19] at e23
  have g23 : rd M23 (k + 2) l = v + w := by rw [e23, rd_wk (by omega)]; exact g19
  rw [g23] at e27
  have g27 : rd M27 (k + 2) l = v + w := by rw [e27, rd_wk (by omega)]; exact g23
  rw [g27] at e31
  have f31 : rd M31 (k + 1) l = rd M (k + 1) l := by rw [e31, rd_wk (by omega), e27, rd_wk (by omega), e23, rd_wk (by omega)]; exact f19
  have g31 : rd M31 (k + 2) l = v + w := by rw [e31, rd_wk (by omega)]; exact g27
  rw [f31] at ex
  rw [g31] at ey
  subst ex
  subst ey
  refine h M31 ?_ (fun c j hj => ?_) f31 g31 ?_ ?_ ?_ ?_
  · rw [e31, e27, e23, e19, e15]
    exact ((((KS.rf.wr ⟨by omega, by omega⟩).wr ⟨by omega, by omega⟩).wr ⟨by omega, by omega⟩).wr ⟨by omega, by omega⟩).wr ⟨by omega, by omega⟩
  · rw [e31, rd_eq, if_neg (by omega), e27, rd_eq, if_neg (by omega), e23, rd_eq, if_neg (by omega), e19, rd_eq, if_neg (by omega), e15, rd_eq, if_neg (by omega)]
  · rw [e31, rd_wk (by omega), e27, rd_wk (by omega), e23, rd_wk (by omega), e19, rd_we]
  · rw [e31, rd_wk (by omega), e27, rd_wk (by omega), e23, rd_we]
  · rw [e31, rd_wk (by omega), e27, rd_we]
  · rw [e31, rd_we]
theorem pc_layL {ih : Int32 → Int32 → Int32 → Int32 → Int32 → Int32 → Int32 → Int32 → Mem → Option (Mem × Unit)} {x3 x5 x6 x7 x8 x9 d len : Int32} {l : Nat} (hl : l < 9) {P : Mem × Unit → Prop}
    (h : ∀ M', KS (SPl k) M M' → (∀ c j, j ≠ l → rd M' c j = rd M c j) → rd M' (k + 1) l = x8 + goX d len → rd M' (k + 2) l = x9 + goY d len → rd M' (k + 3) l = imin x8 (x8 + goX d len) → rd M' (k + 4) l = imax x8 (x8 + goX d len) → rd M' (k + 5) l = imin x9 (x9 + goY d len) → rd M' (k + 6) l = imax x9 (x9 + goY d len) → Pc (ite2 (x3 ≤ 0) (mX2_walk_b217 k k1 ih x3 x5 x6 x7 (x8 + goX d len) (x9 + goY d len) d (Int32.ofNat l) (Int32.ofNat l - (1 : Int32)) M') (mX2_walk_b217 k k1 ih x3 x5 x6 x7 (x8 + goX d len) (x9 + goY d len) d (Int32.ofNat l) (Int32.ofNat l) M')) P) :
    Pc (ite2 (d = (1 : Int32)) (mX2_walk_b75 k k1 ih x3 x5 x6 x7 x8 x9 d (Int32.ofNat l) len (Int32.ofNat l) x8 len M) (ite2 (d = (3 : Int32)) (mX2_walk_b75 k k1 ih x3 x5 x6 x7 x8 x9 d (Int32.ofNat l) len (Int32.ofNat l) x8 (-len) M) (mX2_walk_b75 k k1 ih x3 x5 x6 x7 x8 x9 d (Int32.ofNat l) len (Int32.ofNat l) x8 (0 : Int32) M))) P := by
  have cl := c_of (a := l) (by omega)
  have go : ∀ v : Int32, v = goX d len → Pc (mX2_walk_b75 k k1 ih x3 x5 x6 x7 x8 x9 d (Int32.ofNat l) len (Int32.ofNat l) x8 v M) P := by
    intro v hv
    unfold mX2_walk_b75
    rw [cl]
    refine Pc.k (fun _ => Pc.b (fun M10 e10 => ?_))
    have f10 : rd M10 (k + 1) l = x8 + goX d len := by rw [e10, rd_we, hv]
    have k10 : KS (SPl k) M M10 := by rw [e10]; exact KS.rf.wr ⟨by omega, by omega⟩
    have j10 : ∀ c j, j ≠ l → rd M10 c j = rd M c j := fun c j hj => by rw [e10, rd_eq, if_neg (by omega)]
    have fin : ∀ w : Int32, w = goY d len → Pc (mX2_walk_b108 k k1 ih x3 x5 x6 x7 x8 x9 d (Int32.ofNat l) (Int32.ofNat l) x9 w M10) P := by
      intro w hw
      refine pc_b108 hl (fun M' kM jM h1 h2 h3 h4 h5 h6 => ?_)
      rw [f10] at h1 h3 h4 ⊢
      rw [hw] at h2 h5 h6 ⊢
      exact h M' (k10.trans kM) (fun c j hj => (jM c j hj).trans (j10 c j hj)) h1 h2 h3 h4 h5 h6
    unfold goY at fin
    refine Pc.i (fun c => ?_) (fun c => Pc.i (fun c2 => ?_) (fun c2 => ?_))
    · exact fin len (by rw [if_pos c])
    · exact fin (-len) (by rw [if_neg c, if_pos c2])
    · exact fin 0 (by rw [if_neg c, if_neg c2])
  unfold goX at go
  refine Pc.i (fun c => ?_) (fun c => Pc.i (fun c2 => ?_) (fun c2 => ?_))
  · exact go len (by rw [if_pos c])
  · exact go (-len) (by rw [if_neg c, if_pos c2])
  · exact go 0 (by rw [if_neg c, if_neg c2])
/-- the turn over a bend -/
def turnS (up : Nat → Bool) (a n t d : Nat) (b : Int) : Nat := if 0 ≤ b ∧ b < (n : Int) ∧ a.testBit b.toNat then (d + (if up b.toNat then t else 4 - t)) % 4 else d
theorem pc_b217 {ih : Int32 → Int32 → Int32 → Int32 → Int32 → Int32 → Int32 → Int32 → Mem → Option (Mem × Unit)} {up : Nat → Bool} {x3 x7 x8 x9 x11 y : Int32} {a n t d : Nat} {P : Mem × Unit → Prop} (ha : a < 2 ^ n) (hn : n ≤ 8) (ht : t < 4) (ht0 : 0 < t) (hd : d < 4) (hy : -1 ≤ y.toInt ∧ y.toInt ≤ 8) (hu : ∀ b, b < n → ((((x7 >>> (Int32.ofNat b &&& 31)) &&& (1 : Int32)) = 0) ↔ up b = false))
    (h : Pc (mX2_walk_b272 k k1 ih x3 (Int32.ofNat t) (Int32.ofNat a) x7 x8 x9 (Int32.ofNat (turnS up a n t d y.toInt)) x11 M) P) : Pc (mX2_walk_b217 k k1 ih x3 (Int32.ofNat t) (Int32.ofNat a) x7 x8 x9 (Int32.ofNat d) x11 y M) P := by
  have h256 : a < 256 := by
    have : 2 ^ n ≤ 2 ^ 8 := Nat.pow_le_pow_right (by decide) hn
    have h8 : (2 : Nat) ^ 8 = 256 := rfl
    omega
  unfold mX2_walk_b217
  refine Pc.i (fun c => ?_) (fun c => ?_)
  · have c : y.toInt < 0 := i_lt.mp c
    unfold turnS at h
    rw [if_neg (by omega)] at h
    exact h
  · have c : 0 ≤ y.toInt := i_nlt c
    have ey : y = Int32.ofNat y.toInt.toNat := o_of c
    have hb := f_has0 a h256 y.toInt.toNat (by omega)
    rw [← ey] at hb
    refine Pc.i (fun c1 => ?_) (fun c1 => ?_)
    · have q := hb.mp c1
      unfold turnS at h
      rw [if_neg (fun z => by rw [q] at z; exact absurd z.2.2 (by decide))] at h
      exact h
    · have q : a.testBit y.toInt.toNat = true := by
        cases e : a.testBit y.toInt.toNat with
        | true => rfl
        | false => exact absurd (hb.mpr e) c1
      have hlt : y.toInt.toNat < n := by
        apply Decidable.byContradiction
        intro z
        have : a < 2 ^ y.toInt.toNat := Nat.lt_of_lt_of_le ha (Nat.pow_le_pow_right (by decide) (by omega))
        rw [Nat.testBit_lt_two_pow this] at q
        exact absurd q (by decide)
      have hub := hu y.toInt.toNat hlt
      rw [← ey] at hub
      unfold turnS at h
      rw [if_pos ⟨c, by omega, q⟩] at h
      unfold mX2_walk_b249 mX2_walk_b267
      have e4 : (4 : Int32) - Int32.ofNat t = Int32.ofNat (4 - t) := by
        rw [i_eq, i_sub (by rw [t_of (by omega)]; show (-2147483648 : Int) ≤ 4 - _; omega) (by rw [t_of (by omega)]; show (4 : Int) - _ ≤ _; omega), t_of (by omega), t_of (by omega)]
        show (4 : Int) - _ = _
        omega
      refine Pc.i (fun c2 => Pc.i (fun _ => Pc.b (fun z ez => ?_)) (fun z => absurd rfl z)) (fun c2 => Pc.i (fun z => absurd z (by decide)) (fun _ => Pc.b (fun z ez => ?_)))
      · rw [hub.mp c2] at h
        rw [e4, (f_turn d hd (4 - t) (by omega)).1] at ez
        rw [ez]; exact h
      · have u : up y.toInt.toNat = true := by
          cases e : up y.toInt.toNat with
          | true => rfl
          | false => exact absurd (hub.mpr e) c2
        rw [u] at h
        rw [(f_turn d hd t ht).1] at ez
        rw [ez]; exact h
end WS2

