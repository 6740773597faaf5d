/-! what the reference writes -/
def dls : Nat → Nat → List Int32
  | 0, _ => []
  | k + 1, x => dgc (x / 10 ^ k % 10) :: dls k x
def RN (N : Mem) (n : Nat) : Prop := (rd N 135 30).toInt = (n : Int)
section PUT
variable {M M' M'' N N' N'' : Mem} {n m k b : Nat} {cs ds : List Int32} {x1 v : Int32} {x : Nat}
theorem PC2.rn (h : PC2 N n cs N') : RN N' (n + cs.length) := h.2.1
theorem PC2.nil (h : RN N n) : PC2 N n [] N := ⟨KS.rf, h, fun _ _ => rfl, fun i hi => absurd hi (Nat.not_lt_zero _)⟩
theorem pc_put (h : RN N n) : Pc (mX7_put 135 x1 N) (fun q => PC2 N n [x1] q.1) := by
  unfold mX7_put
  refine Pc.k (fun ck => Pc.b (fun M3 e3 => Pc.b (fun M4 e4 => Pc.ok ?_)))
  have hc : (rd N 135 30).toNatClampNeg = n := by rw [i_clamp, h]; omega
  have hlt := okb_lt ck
  rw [hc] at hlt
  have n1 : ((1 : Int32)).toInt = 1 := rfl
  have e3 : M3 = wr N 151 n x1 := by rw [e3, hc]
  have r30 : rd M3 135 30 = rd N 135 30 := by rw [e3]; exact rd_wk (by decide)
  rw [r30] at e4
  refine ⟨?_, ?_, fun i hi => ?_, fun i hi => ?_⟩
  · show KS SWr N M4
    rw [e4, e3]; exact (KS.rf.wr (Or.inl rfl)).wr (Or.inr ⟨rfl, rfl⟩)
  · show (rd M4 135 30).toInt = _
    have h' : (rd N 135 30).toInt = (n : Int) := h
    rw [e4, rd_we, i_add (by omega) (by omega), h', n1]; rfl
  · show rd M4 151 i = _
    rw [e4, rd_wk (by decide), e3, rd_wj (by omega)]
  · have : i = 0 := by have : [x1].length = 1 := rfl; omega
    subst this
    show rd M4 151 (n + 0) = x1
    rw [e4, rd_wk (by decide), e3]; exact rd_we
theorem un_t : ∀ k, k < 4 → un (k + 1) = Int32.ofNat (10 ^ k) := by decide
theorem dig_v (hx : x ≤ 9999) (hk : k < 4) : (48 : Int32) + ((Int32.ofNat x / Int32.ofNat (10 ^ k)) - (Int32.ofNat x / Int32.ofNat (10 ^ k)) / (10 : Int32) * (10 : Int32)) = dgc (x / 10 ^ k % 10) := by
  have tx : (Int32.ofNat x).toInt = (x : Int) := t_of (by omega)
  have p3 : 10 ^ k ≤ 10 ^ 3 := Nat.pow_le_pow_right (by decide) (by omega)
  have p4 : (10 : Nat) ^ 3 = 1000 := rfl
  have pp : 0 < 10 ^ k := Nat.pow_pos (by decide)
  have tu : (Int32.ofNat (10 ^ k)).toInt = ((10 ^ k : Nat) : Int) := t_of (by omega)
  have n10 : ((10 : Int32)).toInt = 10 := rfl
  have n48 : ((48 : Int32)).toInt = 48 := rfl
  have d1 : (Int32.ofNat x / Int32.ofNat (10 ^ k)).toInt = ((x / 10 ^ k : Nat) : Int) := by rw [i_div (by omega) (by omega), tx, tu]; rfl
  have hle : x / 10 ^ k ≤ x := Nat.div_le_self _ _
  generalize x / 10 ^ k = y at d1 hle
  generalize Int32.ofNat x / Int32.ofNat (10 ^ k) = z at d1
  have d2 : (z / 10).toInt = ((y / 10 : Nat) : Int) := by rw [i_div (by omega) (by omega), d1, n10]; rfl
  have d3 : (z / 10 * 10).toInt = 10 * ((y / 10 : Nat) : Int) := by
    rw [Int32.toInt_mul, d2, n10, Int.bmod_eq_of_le (by omega) (by omega)]; omega
  have d4 : (z - z / 10 * 10).toInt = ((y % 10 : Nat) : Int) := by rw [i_sub (by omega) (by omega), d1, d3]; omega
  unfold dgc
  rw [i_eq, i_add (by omega) (by omega), d4, n48, t_of (by omega)]; omega
theorem pc_l18 (hx : x ≤ 9999) : ∀ (fuel k n : Nat) (N : Mem), k ≤ 4 → RN N n → Pc (mX7_putNumber_l18 135 fuel (Int32.ofNat x) (un k) N) (fun q => PC2 N n (dls k x) q.1) := by
  intro fuel
  induction fuel with
  | zero => intro k n N _ _ q e; cases e
  | succ fuel IH =>
    intro k n N hk h
    show Pc (mX7_putNumber_b18 135 (mX7_putNumber_l18 135 fuel) (Int32.ofNat x) (un k) N) _
    unfold mX7_putNumber_b18
    cases k with
    | zero => exact Pc.i (fun _ => Pc.ok (PC2.nil h)) (fun c => absurd (by decide) c)
    | succ k =>
      refine Pc.i (fun c => ?_) (fun _ => Pc.k (fun _ => ?_))
      · have u := (un_div k (by omega)).2
        have c := i_le.mp c
        rw [show ((0 : Int32)).toInt = 0 from rfl] at c
        omega
      rw [un_t k (by omega), dig_v hx (by omega)]
      refine Pc.m (pc_put h) (fun M7 _ p => Pc.b (fun y ey => ?_))
      rw [← un_t k (by omega), (un_div k (by omega)).1] at ey
      rw [ey]
      exact (IH k (n + 1) M7 (by omega) p.rn).mono (fun q hq => PC2.trans (cs := [dgc (x / 10 ^ k % 10)]) p hq)
theorem pc_num (hx : x ≤ 9999) (h : RN N n) : Pc (mX7_putNumber 135 (Int32.ofNat x) N) (fun q => PC2 N n (dgl x) q.1) := by
  have tx : (Int32.ofNat x).toInt = (x : Int) := t_of (by omega)
  have n9 : ((9 : Int32)).toInt = 9 := rfl
  have st : ∀ (fuel k : Nat), k < 4 → (k = 0 ∨ 10 ^ k ≤ x) → Pc (mX7_putNumber_l2 135 fuel (Int32.ofNat x) (un (k + 1)) N) (fun q => ∃ j, k ≤ j ∧ j < 4 ∧ (j = 0 ∨ 10 ^ j ≤ x) ∧ x / 10 ^ j ≤ 9 ∧ PC2 N n (dls (j + 1) x) q.1) := by
    intro fuel
    induction fuel with
    | zero => intro k _ _ q e; cases e
    | succ fuel IH =>
      intro k hk hlo
      show Pc (mX7_putNumber_b2 135 (mX7_putNumber_l2 135 fuel) (Int32.ofNat x) (un (k + 1)) N) _
      unfold mX7_putNumber_b2
      have pp : 0 < 10 ^ k := Nat.pow_pos (by decide)
      have p3 : 10 ^ k ≤ 10 ^ 3 := Nat.pow_le_pow_right (by decide) (by omega)
      have p4 : (10 : Nat) ^ 3 = 1000 := rfl
      have tu : (Int32.ofNat (10 ^ k)).toInt = ((10 ^ k : Nat) : Int) := t_of (by omega)
      have d1 : (Int32.ofNat x / un (k + 1)).toInt = ((x / 10 ^ k : Nat) : Int) := by rw [un_t k hk, i_div (by omega) (by omega), tx, tu]; rfl
      refine Pc.k (fun _ => Pc.i (fun c => ?_) (fun c => Pc.b (fun y ey => ?_)))
      · have c := i_le.mp c
        rw [d1, n9] at c
        exact (pc_l18 hx 5000 (k + 1) n N (by omega) h).mono (fun q hq => ⟨k, Nat.le_refl _, hk, hlo, by omega, hq⟩)
      · have c := i_nle c
        rw [d1, n9] at c
        have big : 10 ^ (k + 1) ≤ x := by
          rw [Nat.pow_succ]
          have := (Nat.le_div_iff_mul_le pp).mp (show 10 ≤ x / 10 ^ k by omega)
          omega
        have hk3 : k < 3 := by
          rcases Nat.lt_or_ge k 3 with z | z
          · exact z
          · have : k = 3 := by omega
            subst this
            have : (10 : Nat) ^ (3 + 1) = 10000 := rfl
            omega
        rw [un_mul k hk3] at ey
        rw [ey]
        exact (IH (k + 1) (by omega) (Or.inr big)).mono (fun q hq => by
          obtain ⟨j, h1, h2⟩ := hq
          exact ⟨j, by omega, h2⟩)
  unfold mX7_putNumber
  refine (st 5000 0 (by omega) (Or.inl rfl)).mono (fun q hq => ?_)
  obtain ⟨j, _, hj, lo, hi, hp⟩ := hq
  have e : dls (j + 1) x = dgl x := by
    rcases (show j = 0 ∨ j = 1 ∨ j = 2 ∨ j = 3 by omega) with z | z | z | z
    · subst z
      have h1 : (10 : Nat) ^ 0 = 1 := rfl
      rw [h1] at hi
      unfold dgl
      rw [if_pos (by omega)]
      show [dgc (x / 10 ^ 0 % 10)] = _
      rw [h1, show x / 1 % 10 = x by omega]
    · subst z
      have h1 : (10 : Nat) ^ 1 = 10 := rfl
      have h0 : (10 : Nat) ^ 0 = 1 := rfl
      rw [h1] at hi lo
      unfold dgl
      rw [if_neg (by omega), if_pos (by omega)]
      show [dgc (x / 10 ^ 1 % 10), dgc (x / 10 ^ 0 % 10)] = _
      rw [h1, h0, show x / 10 % 10 = x / 10 by omega, show x / 1 % 10 = x % 10 by omega]
    · subst z
      have h2 : (10 : Nat) ^ 2 = 100 := rfl
      have h1 : (10 : Nat) ^ 1 = 10 := rfl
      have h0 : (10 : Nat) ^ 0 = 1 := rfl
      rw [h2] at hi lo
      unfold dgl
      rw [if_neg (by omega), if_neg (by omega), if_pos (by omega)]
      show [dgc (x / 10 ^ 2 % 10), dgc (x / 10 ^ 1 % 10), dgc (x / 10 ^ 0 % 10)] = _
      rw [h2, h1, h0, show x / 100 % 10 = x / 100 by omega, show x / 1 % 10 = x % 10 by omega]
    · subst z
      have h3 : (10 : Nat) ^ 3 = 1000 := rfl
      have h2 : (10 : Nat) ^ 2 = 100 := rfl
      have h1 : (10 : Nat) ^ 1 = 10 := rfl
      have h0 : (10 : Nat) ^ 0 = 1 := rfl
      rw [h3] at hi lo
      unfold dgl
      rw [if_neg (by omega), if_neg (by omega), if_neg (by omega)]
      show [dgc (x / 10 ^ 3 % 10), dgc (x / 10 ^ 2 % 10), dgc (x / 10 ^ 1 % 10), dgc (x / 10 ^ 0 % 10)] = _
      rw [h3, h2, h1, h0, show x / 1000 % 10 = x / 1000 by omega, show x / 1 % 10 = x % 10 by omega]
  rw [← e]; exact hp
/-- what stands for a bend -/
def bcs (up made : Bool) : List Int32 := (if up then 94 else 118) :: (if made then [42] else [])
theorem pc_putB {mm : Nat} (h : RN N n) (hb : b < 8) (e52 : rd N 136 52 = Int32.ofNat mm) (hm : mm < 256) {up : Bool} (hu : rd N 136 (11 + b) = if up then 1 else 0) : Pc (mX7_putBend 135 (Int32.ofNat b) N) (fun q => PC2 N n (bcs up (mm.testBit b)) q.1) := by
  have tb : (Int32.ofNat b).toInt = (b : Int) := t_of (by omega)
  have n11 : ((11 : Int32)).toInt = 11 := rfl
  have ei : ((11 : Int32) + Int32.ofNat b).toNatClampNeg = 11 + b := by rw [i_clamp, i_add (by omega) (by omega)]; omega
  unfold mX7_putBend
  rw [ei]
  have hf := f_has mm hm b (by omega)
  have go : ∀ (y : Int32), Pc (mX7_putBend_b21 135 (Int32.ofNat b) y N) (fun q => PC2 N n (y :: (if mm.testBit b then [42] else [])) q.1) := by
    intro y
    unfold mX7_putBend_b21
    refine Pc.m (pc_put h) (fun M5 _ p => Pc.k (fun _ => ?_))
    have p' : PC2 N n [y] M5 := p
    have k5 : KS SWr N M5 := p'.1
    have e5 : rd M5 (135 + 1) ((52 : Int32)).toNatClampNeg = Int32.ofNat mm := (k5 136 52 (by unfold SWr; omega)).trans e52
    rw [e5]
    unfold mX7_has
    refine Pc.c (Q := fun r => (r = 1 ∧ mm.testBit b = true) ∨ (r = 0 ∧ mm.testBit b = false)) (Pc.i (fun c => Pc.ok (Or.inl ⟨rfl, hf.mp c⟩)) (fun c => Pc.ok (Or.inr ⟨rfl, ?_⟩))) (fun r8 p8 => ?_)
    · cases q : mm.testBit b with
      | false => rfl
      | true => exact absurd (hf.mpr q) c
    rcases p8 with ⟨z, q⟩ | ⟨z, q⟩
    · rw [z, q]
      refine Pc.i (fun y => absurd y (by decide)) (fun _ => Pc.m (pc_put p'.rn) (fun M13 _ p13 => Pc.ok ?_))
      exact PC2.trans (cs := [y]) p' p13
    · rw [z, q]
      exact Pc.i (fun _ => Pc.ok p') (fun y => absurd rfl y)
  unfold bcs
  rw [show rd N (135 + 1) (11 + b) = if up then 1 else 0 from hu]
  cases up with
  | true => exact Pc.k (fun _ => Pc.i (fun _ => go 94) (fun z => absurd rfl z))
  | false => exact Pc.k (fun _ => Pc.i (fun z => absurd (show (0 : Int32) = 1 from z) (by decide)) (fun _ => go 118))
theorem f_ch : ∀ i, i < 6 → mJ0_charAt_5068e 11 (Int32.ofNat i) m0 = some ((stB 11).getD i 0) := by decide +kernel
theorem pc_txt (h : RN N n) {K : Nat → Int32 → Mem → Option (Mem × Unit)} {cs : List Int32} {P : Mem → Prop} (h0 : ∀ x2 N, K 0 x2 N = none) (hP : ∀ N', PC2 N n (stB 11) N' → Pc (cap (mX7_sumOfCosts 135 N') (fun r6 => cal (mX7_putNumber 135 r6 N') (fun M10 _ => some (M10, ())))) (fun q => P q.1)) (hK : ∀ f x2 N, K (f + 1) x2 N = cap (mJ0_length_8abf5 11 N) (fun r2 => ite2 (r2 ≤ x2) (cap (mX7_sumOfCosts 135 N) (fun r6 => cal (mX7_putNumber 135 r6 N) (fun M10 _ => some (M10, ())))) (cap (mJ0_charAt_5068e 11 x2 N) (fun r12 => cal (mX7_put 135 r12 N) (fun M16 _ => bnd (x2 + (1 : Int32)) (fun x2_23 => K f x2_23 M16)))))) : ∀ (f i : Nat) (N' : Mem), i ≤ 6 → PC2 N n ((stB 11).take i) N' → Pc (K f (Int32.ofNat i) N') (fun q => P q.1) := by
  have s6 : (stB 11).length = 6 := by decide
  intro f
  induction f with
  | zero => intro i N' _ _; rw [h0]; exact Pc.n
  | succ f IH =>
    intro i N' hi hp
    rw [hK]
    have ti : (Int32.ofNat i).toInt = (i : Int) := t_of (by omega)
    have n6 : ((6 : Int32)).toInt = 6 := rfl
    refine Pc.c (Q := fun r => r = 6) ?_ (fun r er => ?_)
    · rw [sJ0_length (by decide), show (some (Int32.ofNat (stLen 11)) : Option Int32) = some 6 from by decide +kernel]
      exact Pc.ok rfl
    subst er
    refine Pc.i (fun c => ?_) (fun c => ?_)
    · have c := i_le.mp c
      rw [ti, n6] at c
      have e : i = 6 := by omega
      subst e
      rw [show (stB 11).take 6 = stB 11 from by decide] at hp
      exact hP N' hp
    · have c := i_nle c
      rw [ti, n6] at c
      refine Pc.c (Q := fun r => r = (stB 11).getD i 0) ?_ (fun r12 e12 => ?_)
      · have : mJ0_charAt_5068e 11 (Int32.ofNat i) N' = mJ0_charAt_5068e 11 (Int32.ofNat i) m0 := rfl
        rw [this, f_ch i (by omega)]
        exact Pc.ok rfl
      subst e12
      refine Pc.m (pc_put hp.rn) (fun M16 _ p => Pc.b (fun j ej => ?_))
      rw [ej, o_inc (by omega)]
      refine IH (i + 1) M16 (by omega) ?_
      have := PC2.trans hp (show PC2 N' (n + ((stB 11).take i).length) [(stB 11).getD i 0] M16 from p)
      have e : ∀ i, i < 6 → (stB 11).take i ++ [(stB 11).getD i 0] = (stB 11).take (i + 1) := by decide
      rw [e i (by omega)] at this
      exact this
end PUT
