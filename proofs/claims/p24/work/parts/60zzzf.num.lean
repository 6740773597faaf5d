/-! numbers, digit by digit: by both -/
def dgc (a : Nat) : Int32 := Int32.ofNat (48 + a)
def dgl (x : Nat) : List Int32 := if x < 10 then [dgc x] else if x < 100 then [dgc (x / 10), dgc (x % 10)] else if x < 1000 then [dgc (x / 100), dgc (x / 10 % 10), dgc (x % 10)] else [dgc (x / 1000), dgc (x / 100 % 10), dgc (x / 10 % 10), dgc (x % 10)]
section NUM
variable {M M' M'' N N' N'' : Mem} {n m k k0 n0 p : Nat} {cs ds : List Int32} {x1 v : Int32} {x : Nat}
theorem dgl_len : (dgl x).length = if x < 10 then 1 else if x < 100 then 2 else if x < 1000 then 3 else 4 := by
  unfold dgl
  split
  · rfl
  · split
    · rfl
    · split <;> rfl
theorem dgl_b : 1 ≤ (dgl x).length ∧ (dgl x).length ≤ 4 := by
  rw [dgl_len]
  split
  · omega
  · split
    · omega
    · split <;> omega
theorem f_ones : ∀ v, v < 100 → vp_nar .byte (dgOnes.getD v 0) = dgc (v % 10) ∧ vp_nar .byte (dgTens.getD v 0) = dgc (v / 10) := by decide +kernel
theorem f_last : ∀ v, v < 100 → ((-100 : Int32) < -(Int32.ofNat v)) ∧ ((-9 : Int32) ≤ -(Int32.ofNat v) ↔ v < 10) ∧ -(-(Int32.ofNat v)) = Int32.ofNat v := by decide +kernel
theorem o_pred {p : Nat} (hp : p < 1000) : Int32.ofNat p + (-1 : Int32) = if p = 0 then -1 else Int32.ofNat (p - 1) := by
  have tp : (Int32.ofNat p).toInt = (p : Int) := t_of (by omega)
  have n1 : ((-1 : Int32)).toInt = -1 := rfl
  rw [i_eq, i_add (by omega) (by omega), tp, n1]
  by_cases q : p = 0
  · rw [if_pos q]; omega
  · rw [if_neg q, t_of (by omega)]; omega
theorem okb_nn {i : Int32} {n : Nat} (h : okb i n = true) : 0 ≤ i.toInt := by
  unfold okb at h
  rw [Bool.and_eq_true] at h
  have h1 := h.1
  by_cases q : i < 0
  · rw [decide_eq_true q] at h1; exact absurd h1 (by decide)
  · exact i_nlt q
/-- the last one or two digits -/
theorem pc_gcl {ih : Int32 → Int32 → Int32 → Mem → Option (Mem × Int32)} {w : Nat} (hw : w < 100) (hp : p < 1000) : Pc (mJ6_getChars_ba4f3_b22 k0 n0 ih (-(Int32.ofNat w)) (Int32.ofNat p) 0 M) (fun q => 1 ≤ p ∧ p ≤ n0 ∧ ((w < 10 ∧ q.1 = wr M k0 (p - 1) (dgc w)) ∨ (¬ w < 10 ∧ 2 ≤ p ∧ q.1 = wr (wr M k0 (p - 1) (dgc (w % 10))) k0 (p - 2) (dgc (w / 10))))) := by
  obtain ⟨f1, f2, f3⟩ := f_last w hw
  obtain ⟨g1, g2⟩ := f_ones w hw
  unfold mJ6_getChars_ba4f3_b22 mJ6_getChars_ba4f3_b104
  refine Pc.i (fun _ => Pc.b (fun y ey => Pc.k (fun _ => Pc.k (fun ck => Pc.b (fun M8 e8 => ?_))))) (fun z => absurd f1 z)
  rw [o_pred hp] at ey
  have p1 : 1 ≤ p := by
    rcases Nat.eq_zero_or_pos p with z | z
    · rw [if_pos z] at ey
      rw [ey] at ck
      exact absurd (okb_nn ck) (by decide)
    · exact z
  rw [if_neg (by omega)] at ey
  have pn : p - 1 < n0 := by have := okb_lt ck; rw [ey, c_of (by omega)] at this; exact this
  rw [f3, c_of (by omega), g1, ey, c_of (by omega)] at e8
  refine Pc.i (fun c => Pc.i (fun _ => Pc.ok ⟨p1, by omega, Or.inl ⟨f2.mp c, ?_⟩⟩) (fun z => absurd rfl z)) (fun c => Pc.b (fun y2 ey2 => Pc.k (fun _ => Pc.k (fun ck2 => Pc.b (fun M19 e19 => Pc.i (fun _ => Pc.ok ⟨p1, by omega, Or.inr ⟨fun z => c (f2.mpr z), ?_, ?_⟩⟩) (fun z => absurd rfl z))))))
  · show M8 = _
    rw [e8, Nat.mod_eq_of_lt (f2.mp c)]
  · rw [ey, o_pred (by omega)] at ey2
    rcases Nat.eq_zero_or_pos (p - 1) with z | z
    · rw [if_pos z] at ey2
      rw [ey2] at ck2
      exact absurd (okb_nn ck2) (by decide)
    · omega
  · show M19 = _
    rw [ey, o_pred (by omega)] at ey2
    have z : ¬ p - 1 = 0 := fun z => by
      rw [if_pos z] at ey2
      rw [ey2] at ck2
      exact absurd (okb_nn ck2) (by decide)
    rw [if_neg z] at ey2
    rw [f3, c_of (by omega), g2, ey2, c_of (by omega), e8, show p - 1 - 1 = p - 2 by omega] at e19
    exact e19
theorem f_div100 (hx : x ≤ 9999) : -(Int32.ofNat x) / (100 : Int32) = -(Int32.ofNat (x / 100)) := by
  have tx : (Int32.ofNat x).toInt = (x : Int) := t_of (by omega)
  have t1 : (-(Int32.ofNat x)).toInt = -(x : Int) := by rw [i_neg (by omega), tx]
  have t2 : (-(Int32.ofNat (x / 100))).toInt = -((x / 100 : Nat) : Int) := by rw [i_neg (by rw [t_of (by omega)]; omega), t_of (by omega)]
  rw [i_eq, t2, Int32.toInt_div, t1, show ((100 : Int32)).toInt = 100 from rfl, tdiv_neg (by omega)]
  rw [Int.bmod_eq_of_le (by omega) (by omega)]
  omega
theorem szp {n : Nat} {x0 d p i : Int32} {r : Int32 → Prop} (hi : i.toInt < 10) (h1 : p.toInt < x0.toInt → r (i + d)) (h2 : x0.toInt ≤ p.toInt → ∀ p' i', p' = 10 * p → i' = i + 1 → Pc (mJ6_stringSize_0f7a4_l16 M n x0 d p' i') r) : Pc (mJ6_stringSize_0f7a4_l16 M (n + 1) x0 d p i) r := by
  show Pc (mJ6_stringSize_0f7a4_b16 M (mJ6_stringSize_0f7a4_l16 M n) x0 d p i) r
  unfold mJ6_stringSize_0f7a4_b16
  refine Pc.i (fun c => ?_) (fun _ => Pc.i (fun c => Pc.b (fun p' e => Pc.b (fun i' e' => h2 (i_le.mp c) p' i' e e'))) (fun c => Pc.ok (h1 (i_nle c))))
  have c := i_le.mp c
  rw [show ((10 : Int32)).toInt = 10 from rfl] at c
  omega
theorem pc_size (hx : x ≤ 9999) : Pc (mJ6_stringSize_0f7a4 (Int32.ofNat x) M) (fun r => r = Int32.ofNat (dgl x).length) := by
  have tx : (Int32.ofNat x).toInt = (x : Int) := t_of (by omega)
  have t1 : (-(Int32.ofNat x)).toInt = -(x : Int) := by rw [i_neg (by omega), tx]
  unfold mJ6_stringSize_0f7a4
  refine Pc.i (fun c => ?_) (fun _ => Pc.b (fun y ey => ?_))
  · have c := i_lt.mp c
    rw [tx, show ((0 : Int32)).toInt = 0 from rfl] at c; omega
  rw [ey]
  unfold mJ6_stringSize_0f7a4_b11
  rw [dgl_len]
  refine szp (n := 4999) (by decide) (fun c => ?_) (fun c p1 i1 e1 f1 => ?_)
  · rw [t1, show ((-10 : Int32)).toInt = -10 from rfl] at c
    rw [if_pos (by omega)]; rfl
  rw [t1, show ((-10 : Int32)).toInt = -10 from rfl] at c
  have e1 : p1 = -100 := e1
  have f1 : i1 = 2 := f1
  subst e1; subst f1
  refine szp (n := 4998) (by decide) (fun c2 => ?_) (fun c2 p1 i1 e1 f1 => ?_)
  · rw [t1, show ((-100 : Int32)).toInt = -100 from rfl] at c2
    rw [if_neg (by omega), if_pos (by omega)]; rfl
  rw [t1, show ((-100 : Int32)).toInt = -100 from rfl] at c2
  have e1 : p1 = -1000 := e1
  have f1 : i1 = 3 := f1
  subst e1; subst f1
  refine szp (n := 4997) (by decide) (fun c3 => ?_) (fun c3 p1 i1 e1 f1 => ?_)
  · rw [t1, show ((-1000 : Int32)).toInt = -1000 from rfl] at c3
    rw [if_neg (by omega), if_neg (by omega), if_pos (by omega)]; rfl
  rw [t1, show ((-1000 : Int32)).toInt = -1000 from rfl] at c3
  have e1 : p1 = -10000 := e1
  have f1 : i1 = 4 := f1
  subst e1; subst f1
  refine szp (n := 4996) (by decide) (fun c4 => ?_) (fun c4 p1 i1 e1 f1 => ?_)
  · rw [if_neg (by omega), if_neg (by omega), if_neg (by omega)]; rfl
  · rw [t1, show ((-10000 : Int32)).toInt = -10000 from rfl] at c4
    omega
/-- the digits stand where they belong -/
theorem pc_chars (hx : x ≤ 9999) (hp : n + (dgl x).length < 1000) : Pc (mJ6_getChars_ba4f3 k0 n0 (Int32.ofNat x) (Int32.ofNat (n + (dgl x).length)) M) (fun q => n + (dgl x).length ≤ n0 ∧ (∀ c j, ¬ (c = k0 ∧ n ≤ j) → rd q.1 c j = rd M c j) ∧ (∀ j, rl q.1 129 j = rl M 129 j) ∧ ∀ i, i < (dgl x).length → rd q.1 k0 (n + i) = (dgl x).getD i 0) := by
  have tx : (Int32.ofNat x).toInt = (x : Int) := t_of (by omega)
  have t1 : (-(Int32.ofNat x)).toInt = -(x : Int) := by rw [i_neg (by omega), tx]
  have dl := dgl_len (x := x)
  unfold mJ6_getChars_ba4f3 mJ6_getChars_ba4f3_b12
  refine Pc.i (fun _ => Pc.i (fun _ => Pc.b (fun y ey => ?_)) (fun z => absurd rfl z)) (fun c => ?_)
  rotate_left
  · have c := i_nle c
    rw [tx, show ((0 : Int32)).toInt = 0 from rfl] at c; omega
  rw [ey]
  show Pc (mJ6_getChars_ba4f3_b22 k0 n0 (mJ6_getChars_ba4f3_l22 k0 n0 4999) (-(Int32.ofNat x)) (Int32.ofNat (n + (dgl x).length)) 0 M) _
  by_cases h100 : x < 100
  · refine (pc_gcl h100 (by omega)).mono (fun q hq => ?_)
    obtain ⟨p1, p2, hq⟩ := hq
    rcases hq with ⟨q1, q2⟩ | ⟨q1, q2, q3⟩
    · rw [if_pos q1] at dl
      have ed : dgl x = [dgc x] := by unfold dgl; rw [if_pos q1]
      refine ⟨p2, fun c j hc => ?_, fun j => by rw [q2]; rfl, fun i hi => ?_⟩
      · rw [q2, rd_eq, if_neg (by omega)]
      · have : i = 0 := by omega
        subst this
        rw [q2, dl, ed, show n + 0 = n + 1 - 1 by omega]; exact rd_we
    · rw [if_neg q1, if_pos h100] at dl
      have ed : dgl x = [dgc (x / 10), dgc (x % 10)] := by unfold dgl; rw [if_neg q1, if_pos h100]
      refine ⟨p2, fun c j hc => ?_, fun j => by rw [q3]; rfl, fun i hi => ?_⟩
      · rw [q3, rd_eq, if_neg (by omega), rd_eq, if_neg (by omega)]
      · rw [q3, dl, ed]
        rcases (show i = 0 ∨ i = 1 by omega) with e | e
        · subst e; rw [show n + 0 = n + 2 - 2 by omega]; exact rd_we
        · subst e; rw [rd_wj (by omega), show n + 1 = n + 2 - 1 by omega]; exact rd_we
  · unfold mJ6_getChars_ba4f3_b22
    refine Pc.i (fun c => ?_) (fun _ => Pc.b (fun x3 e3 => Pc.b (fun x4 e4 => Pc.b (fun y1 e5 => Pc.k (fun _ => Pc.k (fun ck => Pc.b (fun M26 e26 => Pc.b (fun y2 e6 => Pc.k (fun _ => Pc.k (fun ck2 => Pc.b (fun M31 e31 => ?_)))))))))))
    · have c := i_lt.mp c
      rw [t1, show ((-100 : Int32)).toInt = -100 from rfl] at c; omega
    have d3 : x3 = -(Int32.ofNat (x / 100)) := e3.trans (f_div100 hx)
    have d4 : x4 = Int32.ofNat (x % 100) := by
      have u1 : (-(Int32.ofNat (x / 100))).toInt = -((x / 100 : Nat) : Int) := by rw [i_neg (by rw [t_of (by omega)]; omega), t_of (by omega)]
      have n100 : ((100 : Int32)).toInt = 100 := rfl
      have u2 : (-(Int32.ofNat (x / 100)) * (100 : Int32)).toInt = -(100 * ((x / 100 : Nat) : Int)) := by
        rw [Int32.toInt_mul, u1, n100, Int.bmod_eq_of_le (by omega) (by omega)]; omega
      rw [e4, d3, i_eq, i_sub (by omega) (by omega), u2, t1, t_of (by omega)]
      omega
    have nz : ¬ n + (dgl x).length = 0 := by have := dgl_b (x := x); omega
    rw [o_pred (by omega), if_neg nz] at e5
    have pn : n + (dgl x).length - 1 < n0 := by have := okb_lt ck; rw [e5, c_of (by omega)] at this; exact this
    rw [e5, o_pred (by omega)] at e6
    have nz2 : ¬ n + (dgl x).length - 1 = 0 := fun z => by
      rw [if_pos z] at e6
      rw [e6] at ck2
      exact absurd (okb_nn ck2) (by decide)
    rw [if_neg nz2] at e6
    obtain ⟨g1, g2⟩ := f_ones (x % 100) (by omega)
    rw [d4, c_of (by omega), g1, e5, c_of (by omega)] at e26
    rw [d4, c_of (by omega), g2, e6, c_of (by omega)] at e31
    rw [d3, e6]
    show Pc (mJ6_getChars_ba4f3_b22 k0 n0 (mJ6_getChars_ba4f3_l22 k0 n0 4998) (-(Int32.ofNat (x / 100))) (Int32.ofNat (n + (dgl x).length - 1 - 1)) 0 M31) _
    refine (pc_gcl (w := x / 100) (by omega) (by omega)).mono (fun q hq => ?_)
    obtain ⟨p1, p2, hq⟩ := hq
    have ne10 : ¬ x < 10 := by omega
    rw [if_neg ne10, if_neg h100] at dl
    rcases hq with ⟨q1, q2⟩ | ⟨q1, q2', q3⟩
    · have lt3 : x < 1000 := by omega
      rw [if_pos lt3] at dl
      have ed : dgl x = [dgc (x / 100), dgc (x / 10 % 10), dgc (x % 10)] := by unfold dgl; rw [if_neg ne10, if_neg h100, if_pos lt3]
      rw [dl] at e26 e31 q2 pn
      refine ⟨by omega, fun c j hc => ?_, fun j => by rw [q2, e31, e26]; rfl, fun i hi => ?_⟩
      · rw [q2, rd_eq, if_neg (by omega), e31, rd_eq, if_neg (by omega), e26, rd_eq, if_neg (by omega)]
      · rw [q2, e31, e26, ed]
        rcases (show i = 0 ∨ i = 1 ∨ i = 2 by omega) with e | e | e
        · subst e; rw [show n + 0 = n + 3 - 1 - 1 - 1 by omega]; exact rd_we
        · subst e; rw [rd_wj (by omega), show n + 1 = n + 3 - 1 - 1 by omega, rd_we]
          show dgc (x % 100 / 10) = dgc (x / 10 % 10)
          rw [show x % 100 / 10 = x / 10 % 10 by omega]
        · subst e; rw [rd_wj (by omega), rd_wj (by omega), show n + 2 = n + 3 - 1 by omega, rd_we]
          show dgc (x % 100 % 10) = dgc (x % 10)
          rw [show x % 100 % 10 = x % 10 by omega]
    · have lt3 : ¬ x < 1000 := by omega
      rw [if_neg lt3] at dl
      have ed : dgl x = [dgc (x / 1000), dgc (x / 100 % 10), dgc (x / 10 % 10), dgc (x % 10)] := by unfold dgl; rw [if_neg ne10, if_neg h100, if_neg lt3]
      rw [dl] at e26 e31 q3 pn
      refine ⟨by omega, fun c j hc => ?_, fun j => by rw [q3, e31, e26]; rfl, fun i hi => ?_⟩
      · rw [q3, rd_eq, if_neg (by omega), rd_eq, if_neg (by omega), e31, rd_eq, if_neg (by omega), e26, rd_eq, if_neg (by omega)]
      · rw [q3, e31, e26, ed]
        rcases (show i = 0 ∨ i = 1 ∨ i = 2 ∨ i = 3 by omega) with e | e | e | e
        · subst e; rw [show n + 0 = n + 4 - 1 - 1 - 2 by omega, rd_we]
          show dgc (x / 100 / 10) = dgc (x / 1000)
          rw [show x / 100 / 10 = x / 1000 by omega]
        · subst e; rw [rd_wj (by omega), show n + 1 = n + 4 - 1 - 1 - 1 by omega, rd_we]; rfl
        · subst e; rw [rd_wj (by omega), rd_wj (by omega), show n + 2 = n + 4 - 1 - 1 by omega, rd_we]
          show dgc (x % 100 / 10) = dgc (x / 10 % 10)
          rw [show x % 100 / 10 = x / 10 % 10 by omega]
        · subst e; rw [rd_wj (by omega), rd_wj (by omega), rd_wj (by omega), show n + 3 = n + 4 - 1 by omega, rd_we]
          show dgc (x % 100 % 10) = dgc (x % 10)
          rw [show x % 100 % 10 = x % 10 by omega]
/-- a number -/
theorem pc_appI (h : BI M n) (hx : x ≤ 9999) : Pc (mJ4_append_bf812 (Int32.ofNat x) M) (fun q => AC M n (dgl x) q.1) := by
  unfold mJ4_append_bf812
  refine Pc.m (Q := fun q => AC M n (dgl x) q.1) ?_ (fun M3 _ p => Pc.ok p)
  unfold mJ5_append_c97b9
  have s70 := sbn70 (v := rd M 133 0)
  have hl := dgl_b (x := x)
  have hn70 : n ≤ 70 := Nat.le_trans h.2.2 s70
  refine Pc.b (fun x2 e2 => Pc.c (pc_size hx) (fun r3 e3 => Pc.b (fun x3 ex3 => Pc.m (pc_ens h) (fun M8 _ p => ?_))))
  obtain ⟨k3, l3, b3, y3⟩ := p
  have k3 : KS SBk M M8 := k3
  have b3 : BI M8 n := b3
  have ex : x3 = Int32.ofNat (n + (dgl x).length) := by
    rw [ex3, e2, e3, i_eq, i_add (by rw [h.2.1, t_of (by omega)]; omega) (by rw [h.2.1, t_of (by omega)]; omega), h.2.1, t_of (by omega), t_of (by omega)]; omega
  subst ex
  refine Pc.c (pc_lat b3.1) (fun r10 e10 => Pc.i (fun z => absurd (e10 ▸ z) (by decide)) (fun _ => ?_))
  refine Pc.m (pc_chars (n := n) hx (by omega)) (fun M17 r16 p => Pc.b (fun M18 e18 => Pc.k (fun _ => Pc.ok ?_)))
  obtain ⟨q1, q2, q3, q4⟩ := p
  have q2 : ∀ c j, ¬ (c = sbv 133 (rd M8 133 0) ∧ n ≤ j) → rd M17 c j = rd M8 c j := q2
  have q4 : ∀ i, i < (dgl x).length → rd M17 (sbv 133 (rd M8 133 0)) (n + i) = (dgl x).getD i 0 := q4
  have sg := sbv_ge (v := rd M8 133 0)
  have r0 : rd M18 133 0 = rd M8 133 0 := by rw [e18, rd_wj (by decide)]; exact q2 _ _ (by omega)
  refine ⟨fun c j hs => ?_, fun j => ?_, ⟨?_, ?_, ?_⟩, fun i hi => ?_, fun i hi => ?_⟩
  · have hc : c < 133 := Nat.lt_of_not_le hs
    show rd M18 c j = _
    rw [e18, rd_wk (by omega), q2 _ _ (by omega)]
    exact k3 c j hs
  · show rl M18 129 j = _
    rw [e18]; exact (q3 j).trans (l3 j)
  · show rd M18 133 1 = 0
    rw [e18, rd_wj (by decide), q2 _ _ (by omega)]; exact b3.1
  · show (rd M18 133 3).toInt = _
    rw [e18, rd_we, t_of (by omega)]
  · show n + (dgl x).length ≤ sbn (rd M18 133 0)
    rw [r0]; exact q1
  · show rd M18 (sbv 133 (rd M18 133 0)) i = _
    rw [r0, e18, rd_wk (by omega), q2 _ _ (by omega)]
    exact y3 i hi
  · show rd M18 (sbv 133 (rd M18 133 0)) (n + i) = _
    rw [r0, e18, rd_wk (by omega)]
    exact q4 i hi
end NUM
