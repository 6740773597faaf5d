/-! the StringBuilder: write, written -/
abbrev sW (s : Nat → Int × Int) : Nat → Int × Int := fun i => if i = 0 then (0, 2) else if i = 2 then (0, 70) else s i
def SBi (s : Nat → Int × Int) (M : Mem) : Prop := OKb (fT (sW s)) M ∧ (rd M 133 3).toInt ≤ (sbn (rd M 133 0) : Int)
section SBS
variable {s : Nat → Int × Int} {f : Bx} {M : Mem} {x1 : Int32}
theorem sb_lvl (h : OKb (fT (sW s)) M) : rd M 133 0 = 0 ∨ rd M 133 0 = 1 ∨ rd M 133 0 = 2 := by
  have b : (0 : Int) ≤ (rd M 133 0).toInt ∧ (rd M 133 0).toInt ≤ 2 := h 133 0
  have h3 : (rd M 133 0).toInt = 0 ∨ (rd M 133 0).toInt = 1 ∨ (rd M 133 0).toInt = 2 := by omega
  exact h3.imp (fun e => i_eq.mpr e) (Or.imp (fun e => i_eq.mpr e) (fun e => i_eq.mpr e))
theorem sb_c0 (h : OKb (fT (sW s)) M) : rd M 133 1 = 0 := by
  have b : (0 : Int) ≤ (rd M 133 1).toInt ∧ (rd M 133 1).toInt ≤ 0 := h 133 1
  exact i_eq.mpr (by rw [show ((0 : Int32)).toInt = 0 from rfl]; omega)
theorem sb_n (h : OKb (fT (sW s)) M) : (0 : Int) ≤ (rd M 133 3).toInt ∧ (rd M 133 3).toInt ≤ 70 := h 133 3
theorem sh_l (x : Int32) : x <<< ((0 : Int32) &&& 31) = x := by rw [show ((0 : Int32) &&& 31) = 0 from by decide]; exact Int32.shiftLeft_zero
theorem sh_r (x : Int32) : x >>> ((0 : Int32) &&& 31) = x := by rw [show ((0 : Int32) &&& 31) = 0 from by decide]; exact Int32.shiftRight_zero
theorem okb_zr {k : Nat} (h : OKb f M) (hb : ∀ j, (bxc f k j).1 ≤ 0 ∧ 0 ≤ (bxc f k j).2) : OKb f (zr M k) := by
  intro k' j'
  by_cases e : k' = k
  · subst e
    have e1 : rd (zr M k') k' j' = 0 := by
      show (if k' = k' then fun _ => (0 : Int32) else M.1 k') j' = 0
      rw [if_pos rfl]
    rw [e1]; exact hb j'
  · have e1 : rd (zr M k) k' j' = rd M k' j' := by
      show (if k' = k then fun _ => (0 : Int32) else M.1 k') j' = M.1 k' j'
      rw [if_neg e]
    rw [e1]; exact h k' j'
theorem newCap {v : Int32} {n : Int} (hl : rd M 133 0 = v) (hc : rd M 133 1 = 0) (hN : (Int32.ofNat (sbn v)).toInt = n) (hn : 0 < n ∧ n < 1000) (h1 : n < x1.toInt ∧ x1.toInt ≤ 2 * n + 2) : Sf (mJ5_newCapacity_0f7a4 x1 M) (fun r => r.toInt = 2 * n + 2) := by
  unfold mJ5_newCapacity_0f7a4
  rw [hl, hc]
  refine Sf.b (fun x2 e2 => Sf.b (fun x3 e3 => Sf.b (fun x4 e4 => ?_)))
  rw [sh_l] at e3
  have t2 : x2.toInt = n := by rw [e2]; exact hN
  have t4 : x4.toInt = x1.toInt - n := by rw [e4, e3, i_sub (by omega) (by omega), t2]
  have n2 : ((2 : Int32)).toInt = 2 := rfl
  refine Sf.c (Q := fun r => r.toInt = 2 * n + 2) ?_ (fun r6 h6 => ?_)
  · unfold mJ8_newLength_cabcc
    refine Sf.b (fun x5 e5 => ?_)
    rw [sh_l] at e5
    have t5 : (x2 + 2).toInt = n + 2 := by rw [i_add (by omega) (by omega), t2, n2]
    have em := i_max (a := x4) (b := x2 + 2)
    have e5' : x5.toInt = 2 * n + 2 := by rw [e5, i_add (by omega) (by omega)]; omega
    refine Sf.i (fun c => ?_) (fun _ => Sf.i (fun c => ?_) (fun _ => Sf.ok e5'))
    · have c := i_le.mp c
      rw [show ((0 : Int32)).toInt = 0 from rfl] at c
      exfalso; omega
    · have c := i_lt.mp c
      rw [show ((2147483639 : Int32)).toInt = 2147483639 from rfl] at c
      exfalso; omega
  · refine Sf.i (fun c => ?_) (fun _ => Sf.ok ?_)
    · have c := congrArg Int32.toInt c
      rw [show ((2147483647 : Int32)).toInt = 2147483647 from rfl] at c
      exfalso; omega
    · rw [sh_r]; exact h6
theorem fit_b {k n : Nat} (h : ∀ j, (-128 : Int) ≤ (rd M k j).toInt ∧ (rd M k j).toInt ≤ 127) : fitB (M.1 k) n = true := by
  unfold fitB
  refine List.all_eq_true.mpr (fun j _ => ?_)
  show ((-128 : Int32) ≤ M.1 k j && M.1 k j ≤ 127) = true
  rw [Bool.and_eq_true]
  have h1 := h j
  exact ⟨decide_eq_true (i_le.mpr h1.1), decide_eq_true (i_le.mpr h1.2)⟩
theorem b_154 (j : Nat) : bxc f 154 j = (-128, 127) := rfl
theorem b_155 (j : Nat) : bxc f 155 j = (-128, 127) := rfl
theorem b_134 (j : Nat) : bxc f 134 j = (-128, 127) := rfl
/-- one growth -/
theorem sb_grow {v v' : Int32} {id id' n n' : Nat} (h : OKb (fT (sW s)) M) (hl : rd M 133 0 = v) (hv : v = 0 ∨ v = 1) (hv' : v + 1 = v') (e1 : sbv 133 v = id) (e2 : sbv 133 v' = id') (e3 : sbn v = n) (e4 : sbn v' = n') (hb : ∀ j, bxc (fT (sW s)) id j = (-128, 127)) (hb' : ∀ j, bxc (fT (sW s)) id' j = (-128, 127)) (hid : id ≠ 133 ∧ id' ≠ 133) (hn : (n : Int) < x1.toInt ∧ x1.toInt ≤ n') (hw : n' = 2 * n + 2 ∧ 0 < n ∧ n < 1000) (hvb : 0 ≤ v'.toInt ∧ v'.toInt ≤ 2) (hcnt : (rd M 133 3).toInt ≤ (n : Int)) : Sf (mJ5_ensureCapacityInternal_d00df x1 M) (fun q => SBi s q.1 ∧ x1.toInt ≤ (sbn (rd q.1 133 0) : Int) ∧ rd q.1 133 3 = rd M 133 3) := by
  have hc := sb_c0 h
  have hN : (Int32.ofNat n).toInt = (n : Int) := toInt_of rfl (by omega)
  unfold mJ5_ensureCapacityInternal_d00df
  rw [hl, hc, hv', e1, e2, e3, e4]
  refine Sf.b (fun x2 ex => ?_)
  rw [sh_r] at ex
  have t2 : x2.toInt = (n : Int) := by rw [ex]; exact hN
  refine Sf.i (fun c => ?_) (fun _ => ?_)
  · have c := i_le.mp c
    rw [i_sub (by omega) (by omega), show ((0 : Int32)).toInt = 0 from rfl] at c
    exfalso; omega
  · refine Sf.c (newCap (n := (n : Int)) hl hc (by rw [e3]; exact hN) ⟨by omega, by omega⟩ ⟨by omega, by omega⟩) (fun r6 h6 => Sf.k ?_ (Sf.b (fun M9 e9 => Sf.ok ?_)))
    · rw [sh_l, Bool.and_eq_true, Bool.and_eq_true]
      refine ⟨decide_eq_true hv, decide_eq_true (i_eq.mpr ?_), fit_b (fun j => ?_)⟩
      · rw [h6, show (Int32.ofNat n').toInt = (n' : Int) from toInt_of rfl (by omega)]; omega
      · have := h id j; rw [hb j] at this; exact this
    · have o1 : OKb (fT (sW s)) (zr M id') := okb_zr h (fun j => by rw [hb' j]; decide)
      have o2 : OKb (fT (sW s)) (cpy (zr M id') id id' 0 0 n) := o1.cp (fun j => (hb j).trans (hb' j).symm)
      have o3 : OKb (fT (sW s)) M9 := by rw [e9]; exact o2.put (b := (0, 2)) rfl hvb
      have l9 : rd M9 133 0 = v' := by rw [e9]; exact rd_we
      have c9 : rd M9 133 3 = rd M 133 3 := by
        rw [e9, rd_wj (by decide)]
        have e8 : rd (cpy (zr M id') id id' 0 0 n) 133 3 = rd (zr M id') 133 3 := congrFun (cpy_o (M := zr M id') (a := id) (sp := 0) (dp := 0) (n := n) 133 (fun e => hid.2 e.symm)).1 3
        rw [e8]
        show (if 133 = id' then fun _ => (0 : Int32) else M.1 133) 3 = M.1 133 3
        rw [if_neg (fun e => hid.2 e.symm)]
      refine ⟨⟨o3, ?_⟩, ?_, c9⟩
      · rw [l9, c9, e4]; omega
      · rw [l9, e4]; omega
theorem sb_ens (h : SBi s M) (h1 : 0 ≤ x1.toInt ∧ x1.toInt ≤ 70) (h2 : x1.toInt ≤ (rd M 133 3).toInt + 11) : Sf (mJ5_ensureCapacityInternal_d00df x1 M) (fun q => SBi s q.1 ∧ x1.toInt ≤ (sbn (rd q.1 133 0) : Int) ∧ rd q.1 133 3 = rd M 133 3) := by
  have stay : x1.toInt ≤ (sbn (rd M 133 0) : Int) → Sf (mJ5_ensureCapacityInternal_d00df x1 M) (fun q => SBi s q.1 ∧ x1.toInt ≤ (sbn (rd q.1 133 0) : Int) ∧ rd q.1 133 3 = rd M 133 3) := by
    intro h3
    have hb : sbn (rd M 133 0) ≤ 70 := by unfold sbn; split <;> first | decide | (split <;> decide)
    have hN : (Int32.ofNat (sbn (rd M 133 0))).toInt = (sbn (rd M 133 0) : Int) := toInt_of rfl (by omega)
    unfold mJ5_ensureCapacityInternal_d00df
    refine Sf.b (fun x2 ex => Sf.i (fun _ => Sf.ok ⟨h, h3, rfl⟩) (fun c => ?_))
    rw [sb_c0 h.1, sh_r] at ex
    have t2 : x2.toInt = (sbn (rd M 133 0) : Int) := by rw [ex]; exact hN
    have c := i_nle c
    rw [i_sub (by omega) (by omega), show ((0 : Int32)).toInt = 0 from rfl] at c
    exfalso; omega
  have hc := sb_n h.1
  have h5 := h.2
  rcases sb_lvl h.1 with e | e | e
  · rw [e] at h5 stay
    have s0 : sbn 0 = 16 := rfl
    rw [s0] at h5 stay
    by_cases c : x1.toInt ≤ 16
    · exact stay c
    · exact sb_grow (v := 0) (v' := 1) (id := 134) (id' := 154) (n := 16) (n' := 34) h.1 e (Or.inl rfl) rfl rfl rfl rfl rfl b_134 b_154 ⟨by decide, by decide⟩ ⟨by omega, by omega⟩ ⟨by decide, by decide, by decide⟩ ⟨by decide, by decide⟩ (by omega)
  · rw [e] at h5 stay
    have s0 : sbn 1 = 34 := rfl
    rw [s0] at h5 stay
    by_cases c : x1.toInt ≤ 34
    · exact stay c
    · exact sb_grow (v := 1) (v' := 2) (id := 154) (id' := 155) (n := 34) (n' := 70) h.1 e (Or.inr rfl) rfl rfl rfl rfl rfl b_154 b_155 ⟨by decide, by decide⟩ ⟨by omega, by omega⟩ ⟨by decide, by decide, by decide⟩ ⟨by decide, by decide⟩ (by omega)
  · rw [e] at stay
    exact stay (by show x1.toInt ≤ ((70 : Nat) : Int); omega)
theorem okb_wk {k j : Nat} {v : Int32} (h : OKb f M) (hb : ∀ j, bxc f k j = (-128, 127)) (hv : -128 ≤ v.toInt ∧ v.toInt ≤ 127) : OKb f (wr M k j v) := h.put (hb j) hv
theorem sbv_b {v : Int32} : ∀ j, bxc f (sbv 133 v) j = (-128, 127) := by
  unfold sbv
  split
  · exact b_134
  · split
    · exact b_154
    · exact b_155
theorem sbv_ne {v : Int32} : 133 ≠ sbv 133 v := by
  unfold sbv
  split
  · decide
  · split <;> decide
theorem sb_lat (h : OKb (fT (sW s)) M) : mJ5_isLatin1_aae02 M = some 1 := by
  unfold mJ5_isLatin1_aae02 ite2
  rw [if_neg (by decide), if_pos (sb_c0 h)]
theorem sb_set3 {v : Int32} (h : OKb (fT (sW s)) M) (hv : 0 ≤ v.toInt ∧ v.toInt ≤ 70) : OKb (fT (sW s)) (wr M 133 3 v) := h.put (b := (0, 70)) rfl hv
/-- a character behind the others -/
theorem sb_appC (h : SBi s M) (hx : x1.toInt ≤ 255) (hc : (rd M 133 3).toInt + 1 ≤ 70) : Sf (mJ5_append_3fe6f x1 M) (fun q => SBi s q.1 ∧ (rd q.1 133 3).toInt = (rd M 133 3).toInt + 1) := by
  unfold mJ5_append_3fe6f
  have n1 : ((1 : Int32)).toInt = 1 := rfl
  have b := sb_n h.1
  have e1 := i_add (a := rd M 133 3) (b := 1) (by omega) (by omega)
  refine Sf.m (sb_ens (x1 := rd M 133 3 + 1) h (by omega) (by omega)) (fun M3 _ p => ?_)
  obtain ⟨h3, hcap, hn⟩ := p
  have hcap : (rd M 133 3 + 1).toInt ≤ (sbn (rd M3 133 0) : Int) := hcap
  have hn : rd M3 133 3 = rd M 133 3 := hn
  have h3 : SBi s M3 := h3
  rw [sb_lat h3.1]
  refine Sf.c (Q := fun r => r = 1) ⟨1, rfl, rfl⟩ (fun r er => ?_)
  subst er
  refine Sf.i (fun c => absurd c (by decide)) (fun _ => ?_)
  have hcan : mJ1_canEncode_fc78d x1 M3 = some 1 := by
    unfold mJ1_canEncode_fc78d ite2
    rw [if_neg (fun c => by have := i_lt.mp c; rw [show ((255 : Int32)).toInt = 255 from rfl] at this; omega)]
  rw [hcan]
  refine Sf.c (Q := fun r => r = 1) ⟨1, rfl, rfl⟩ (fun r er => ?_)
  subst er
  refine Sf.i (fun c => absurd c (by decide)) (fun _ => Sf.b (fun M21 e21 => ?_))
  have h21 : OKb (fT (sW s)) M21 := by rw [e21]; exact sb_set3 h3.1 (by rw [hn]; omega)
  refine Sf.k (ok_in (by rw [hn]; omega) (by rw [hn]; omega)) (Sf.b (fun M25 e25 => ?_))
  have h25 : OKb (fT (sW s)) M25 := by rw [e25]; exact okb_wk h21 sbv_b nar_byte
  have l25 : rd M25 133 0 = rd M3 133 0 := by rw [e25, rd_wk sbv_ne, e21, rd_wj (by decide)]
  have c25 : rd M25 133 3 = rd M3 133 3 + 1 := by rw [e25, rd_wk sbv_ne, e21, rd_we]
  refine Sf.k (decide_eq_true l25) (Sf.ok ⟨⟨h25, ?_⟩, ?_⟩)
  · rw [c25, l25, hn]; exact hcap
  · show (rd M25 133 3).toInt = _
    rw [c25, hn, e1, n1]
theorem sb_appC4 (h : SBi s M) (hx : x1.toInt ≤ 255) (hc : (rd M 133 3).toInt + 1 ≤ 70) : Sf (mJ4_append_cf468 x1 M) (fun q => SBi s q.1 ∧ (rd q.1 133 3).toInt = (rd M 133 3).toInt + 1) := by
  unfold mJ4_append_cf468
  exact Sf.m (sb_appC h hx hc) (fun M3 _ p => Sf.ok p)
/-! numbers -/
theorem sz_b {n : Nat} {x0 d p i : Int32} (r : Int32 → Prop) (hi : i.toInt < 10) (h1 : p.toInt < x0.toInt → r (i + d)) (h2 : x0.toInt ≤ p.toInt → ∀ p' i', p' = 10 * p → i' = i + 1 → Sf (mJ6_stringSize_0f7a4_l16 M n x0 d p' i') r) : Sf (mJ6_stringSize_0f7a4_l16 M (n + 1) x0 d p i) r := by
  show Sf (mJ6_stringSize_0f7a4_b16 M (mJ6_stringSize_0f7a4_l16 M n) x0 d p i) r
  unfold mJ6_stringSize_0f7a4_b16
  refine Sf.i (fun c => ?_) (fun _ => Sf.i (fun c => Sf.b (fun p' ep => Sf.b (fun i' ei => h2 (i_le.mp c) p' i' ep ei))) (fun c => Sf.ok (h1 (i_nle c))))
  have c := i_le.mp c
  rw [show ((10 : Int32)).toInt = 10 from rfl] at c
  exfalso; omega
/-- what a number's size tells -/
def szP (x : Int32) (r : Int32) : Prop := (r.toInt = 1 ∧ x.toInt ≤ 9) ∨ (r.toInt = 2 ∧ x.toInt ≤ 99) ∨ (r.toInt = 3 ∧ x.toInt ≤ 999) ∨ r.toInt = 4
theorem sb_size (hx : 0 ≤ x1.toInt ∧ x1.toInt ≤ 9999) : Sf (mJ6_stringSize_0f7a4 x1 M) (szP x1) := by
  unfold mJ6_stringSize_0f7a4
  refine Sf.i (fun c => ?_) (fun _ => Sf.b (fun y ey => ?_))
  · have c := i_lt.mp c
    rw [show ((0 : Int32)).toInt = 0 from rfl] at c
    exfalso; omega
  · have ty : y.toInt = -x1.toInt := by rw [ey]; exact i_neg (by omega)
    unfold mJ6_stringSize_0f7a4_b11
    refine sz_b _ (by decide) (fun h => Or.inl ⟨by decide, ?_⟩) (fun h p2 i2 ep2 ei2 => ?_)
    · rw [show ((-10 : Int32)).toInt = -10 from rfl] at h; omega
    · subst ep2; subst ei2
      refine sz_b _ (by decide) (fun h => Or.inr (Or.inl ⟨by decide, ?_⟩)) (fun h p2 i2 ep2 ei2 => ?_)
      · rw [show ((10 * (-10) : Int32)).toInt = -100 from by decide] at h; omega
      · subst ep2; subst ei2
        refine sz_b _ (by decide) (fun h => Or.inr (Or.inr (Or.inl ⟨by decide, ?_⟩))) (fun h p2 i2 ep2 ei2 => ?_)
        · rw [show ((10 * (10 * (-10)) : Int32)).toInt = -1000 from by decide] at h; omega
        · subst ep2; subst ei2
          refine sz_b _ (by decide) (fun h => Or.inr (Or.inr (Or.inr (by decide)))) (fun h p2 i2 ep2 ei2 => ?_)
          rw [show ((10 * (10 * (10 * (-10))) : Int32)).toInt = -10000 from by decide] at h
          exfalso; omega
theorem tdiv_neg {a : Int} (h : a ≤ 0) : a.tdiv 100 = -((-a) / 100) := by
  have e : a = -(-a) := by omega
  rw [e, Int.neg_tdiv, Int.tdiv_eq_ediv_of_nonneg (by omega)]
  congr 2
  omega
/-- the digits of a number below 100 -/
theorem gc_last {k0 n0 : Nat} {ih : Int32 → Int32 → Int32 → Mem → Option (Mem × Int32)} {x0 x5 : Int32} (h : OKb f M) (hk : ∀ j, bxc f k0 j = (-128, 127)) (hk2 : k0 ≠ 133) (hx : -99 ≤ x0.toInt ∧ x0.toInt ≤ 0) (h5 : 1 ≤ x5.toInt ∧ x5.toInt ≤ n0) (h6 : x0.toInt < -9 → 2 ≤ x5.toInt) (hn : n0 ≤ 1000) : Sf (mJ6_getChars_ba4f3_b22 k0 n0 ih x0 x5 0 M) (fun q => OKb f q.1 ∧ ∀ j, rd q.1 133 j = rd M 133 j) := by
  unfold mJ6_getChars_ba4f3_b22
  have n1 : ((-1 : Int32)).toInt = -1 := rfl
  have hx0 : (-x0).toInt = -x0.toInt := i_neg (by omega)
  have last : ∀ (y : Int32) (M' : Mem), OKb f M' → (∀ j, rd M' 133 j = rd M 133 j) → Sf (mJ6_getChars_ba4f3_b104 k0 n0 y 0 M') (fun q => OKb f q.1 ∧ ∀ j, rd q.1 133 j = rd M 133 j) := by
    intro y M' h' e'
    unfold mJ6_getChars_ba4f3_b104
    exact Sf.i (fun _ => Sf.ok ⟨h', e'⟩) (fun c => absurd rfl c)
  refine Sf.i (fun c => Sf.b (fun y ey => ?_)) (fun c => ?_)
  · have ty : y.toInt = x5.toInt - 1 := by rw [ey, i_add (by omega) (by omega), n1]; omega
    refine Sf.k (ok_in (by omega) (by omega)) (Sf.k (ok_in (by omega) (by omega)) (Sf.b (fun M8 e8 => ?_)))
    have h8 : OKb f M8 := by rw [e8]; exact okb_wk h hk nar_byte
    have f8 : ∀ j, rd M8 133 j = rd M 133 j := fun j => by rw [e8]; exact rd_wk (fun e => hk2 e.symm)
    refine Sf.i (fun _ => last y M8 h8 f8) (fun c9 => Sf.b (fun y2 ey2 => ?_))
    have c9 := i_nle c9
    rw [show ((-9 : Int32)).toInt = -9 from rfl] at c9
    have := h6 c9
    have ty2 : y2.toInt = x5.toInt - 2 := by rw [ey2, i_add (by omega) (by omega), n1]; omega
    refine Sf.k (ok_in (by omega) (by omega)) (Sf.k (ok_in (by omega) (by omega)) (Sf.b (fun M19 e19 => ?_)))
    refine last y2 M19 (by rw [e19]; exact okb_wk h8 hk nar_byte) (fun j => ?_)
    rw [e19, rd_wk (fun e => hk2 e.symm)]; exact f8 j
  · have c := i_nlt c
    rw [show ((-100 : Int32)).toInt = -100 from rfl] at c
    exfalso; omega
theorem sb_chars {k0 n0 : Nat} {x5 : Int32} (h : OKb f M) (hk : ∀ j, bxc f k0 j = (-128, 127)) (hk2 : k0 ≠ 133) (hx : 0 ≤ x1.toInt ∧ x1.toInt ≤ 9999) (hn : n0 ≤ 1000) (h5 : x5.toInt ≤ n0) {r : Int32} (hr : szP x1 r) (h6 : r.toInt ≤ x5.toInt) : Sf (mJ6_getChars_ba4f3 k0 n0 x1 x5 M) (fun q => OKb f q.1 ∧ ∀ j, rd q.1 133 j = rd M 133 j) := by
  unfold mJ6_getChars_ba4f3
  have n1 : ((-1 : Int32)).toInt = -1 := rfl
  have n100 : ((100 : Int32)).toInt = 100 := rfl
  have hr1 : 1 ≤ r.toInt := by rcases hr with h | h | h | h <;> omega
  have hr2 : 10 ≤ x1.toInt → 2 ≤ r.toInt := by rcases hr with h | h | h | h <;> omega
  have hr3 : 100 ≤ x1.toInt → 3 ≤ r.toInt := by rcases hr with h | h | h | h <;> omega
  have hr4 : 1000 ≤ x1.toInt → 4 ≤ r.toInt := by rcases hr with h | h | h | h <;> omega
  refine Sf.i (fun _ => ?_) (fun c => ?_)
  · unfold mJ6_getChars_ba4f3_b12
    refine Sf.i (fun _ => Sf.b (fun x0 ex => ?_)) (fun c => absurd rfl c)
    have tx : x0.toInt = -x1.toInt := by rw [ex]; exact i_neg (by omega)
    show Sf (mJ6_getChars_ba4f3_b22 k0 n0 (mJ6_getChars_ba4f3_l22 k0 n0 4999) x0 x5 0 M) _
    by_cases c : x1.toInt ≤ 99
    · exact gc_last h hk hk2 (by omega) ⟨by omega, h5⟩ (fun _ => by have := hr2 (by omega); omega) hn
    · have r3 := hr3 (by omega)
      unfold mJ6_getChars_ba4f3_b22
      refine Sf.i (fun c => ?_) (fun _ => Sf.b (fun q eq => Sf.b (fun d ed => Sf.b (fun y ey => ?_))))
      · have c := i_lt.mp c
        rw [show ((-100 : Int32)).toInt = -100 from rfl] at c
        exfalso; omega
      · have tq : q.toInt = -(x1.toInt / 100) := by
          rw [eq, Int32.toInt_div_of_ne_right _ _ (by decide), n100, tdiv_neg (by omega), tx]
          congr 2; omega
        have td : d.toInt = x1.toInt - 100 * (x1.toInt / 100) := by
          have e1 : (q * 100).toInt = q.toInt * 100 := i_mulr n100 (by omega) (by omega)
          rw [ed, i_sub (by omega) (by omega), e1]; omega
        have ty : y.toInt = x5.toInt - 1 := by rw [ey, i_add (by omega) (by omega), n1]; omega
        refine Sf.k (ok_in (by omega) (by omega)) (Sf.k (ok_in (by omega) (by omega)) (Sf.b (fun M8 e8 => Sf.b (fun y2 ey2 => ?_))))
        have h8 : OKb f M8 := by rw [e8]; exact okb_wk h hk nar_byte
        have f8 : ∀ j, rd M8 133 j = rd M 133 j := fun j => by rw [e8]; exact rd_wk (fun e => hk2 e.symm)
        have ty2 : y2.toInt = x5.toInt - 2 := by rw [ey2, i_add (by omega) (by omega), n1]; omega
        refine Sf.k (ok_in (by omega) (by omega)) (Sf.k (ok_in (by omega) (by omega)) (Sf.b (fun M9 e9 => ?_)))
        have h9 : OKb f M9 := by rw [e9]; exact okb_wk h8 hk nar_byte
        have f9 : ∀ j, rd M9 133 j = rd M 133 j := fun j => by rw [e9, rd_wk (fun e => hk2 e.symm)]; exact f8 j
        show Sf (mJ6_getChars_ba4f3_b22 k0 n0 (mJ6_getChars_ba4f3_l22 k0 n0 4998) q y2 0 M9) _
        refine Sf.mono (gc_last h9 hk hk2 (by omega) ⟨by omega, by omega⟩ (fun _ => by have := hr4 (by omega); omega) hn) (fun z hz => ⟨hz.1, fun j => (hz.2 j).trans (f9 j)⟩)
  · exfalso
    have := mt i_le.mpr c
    rw [show ((0 : Int32)).toInt = 0 from rfl] at this
    omega
theorem sb_appI (h : SBi s M) (hx : 0 ≤ x1.toInt ∧ x1.toInt ≤ 9999) (hc : (rd M 133 3).toInt + 4 ≤ 70) : Sf (mJ4_append_bf812 x1 M) (fun q => SBi s q.1 ∧ (rd q.1 133 3).toInt ≤ (rd M 133 3).toInt + 4) := by
  unfold mJ4_append_bf812
  refine Sf.m (Q := fun q => SBi s q.1 ∧ (rd q.1 133 3).toInt ≤ (rd M 133 3).toInt + 4) ?_ (fun M3 _ p => Sf.ok p)
  unfold mJ5_append_c97b9
  have b := sb_n h.1
  refine Sf.b (fun c0 ec => Sf.c (sb_size hx) (fun r hr => Sf.b (fun x3 e3 => ?_)))
  subst ec
  have hr1 : 1 ≤ r.toInt ∧ r.toInt ≤ 4 := by rcases hr with h | h | h | h <;> omega
  have t3 : x3.toInt = (rd M 133 3).toInt + r.toInt := by rw [e3]; exact i_add (by omega) (by omega)
  refine Sf.m (sb_ens (x1 := x3) h (by omega) (by omega)) (fun M8 _ p => ?_)
  obtain ⟨h8, hcap, hn⟩ := p
  have h8 : SBi s M8 := h8
  have hcap : x3.toInt ≤ (sbn (rd M8 133 0) : Int) := hcap
  rw [sb_lat h8.1]
  refine Sf.c (Q := fun r => r = 1) ⟨1, rfl, rfl⟩ (fun r2 er => ?_)
  subst er
  have hb70 : sbn (rd M8 133 0) ≤ 1000 := by unfold sbn; split <;> first | decide | (split <;> decide)
  refine Sf.i (fun c => absurd c (by decide)) (fun _ => Sf.m (sb_chars h8.1 sbv_b (fun e => sbv_ne e.symm) hx hb70 hcap hr (by omega)) (fun M17 _ p17 => Sf.b (fun M18 e18 => ?_)))
  have h17 : OKb (fT (sW s)) M17 := p17.1
  have f17 : ∀ j, rd M17 133 j = rd M8 133 j := p17.2
  have l18 : rd M18 133 0 = rd M8 133 0 := by rw [e18, rd_wj (by decide)]; exact f17 0
  have c18 : rd M18 133 3 = x3 := by rw [e18]; exact rd_we
  refine Sf.k (decide_eq_true l18) (Sf.ok ⟨⟨by rw [e18]; exact sb_set3 h17 (by omega), ?_⟩, ?_⟩)
  · rw [c18, l18]; exact hcap
  · show (rd M18 133 3).toInt ≤ _
    rw [c18]; omega
theorem sb_appS (h : SBi s M) (hc : (rd M 133 3).toInt + 6 ≤ 70) : Sf (mJ4_append_15ec4 11 M) (fun q => SBi s q.1 ∧ (rd q.1 133 3).toInt ≤ (rd M 133 3).toInt + 6) := by
  unfold mJ4_append_15ec4
  refine Sf.m (Q := fun q => SBi s q.1 ∧ (rd q.1 133 3).toInt ≤ (rd M 133 3).toInt + 6) ?_ (fun M3 _ p => Sf.ok p)
  unfold mJ5_append_cf1ce
  have b := sb_n h.1
  have n6 : ((6 : Int32)).toInt = 6 := rfl
  rw [sJ0_length (by decide), show (some (Int32.ofNat (stLen 11)) : Option Int32) = some 6 from by decide +kernel]
  refine Sf.c (Q := fun r => r = 6) ⟨6, rfl, rfl⟩ (fun r er => ?_)
  subst er
  have t6 := i_add (a := rd M 133 3) (b := 6) (by omega) (by omega)
  refine Sf.m (sb_ens (x1 := rd M 133 3 + 6) h (by omega) (by omega)) (fun M6 _ p => ?_)
  obtain ⟨h6, hcap, hn⟩ := p
  have h6 : SBi s M6 := h6
  have hn : rd M6 133 3 = rd M 133 3 := hn
  have hcap : (rd M 133 3 + 6).toInt ≤ (sbn (rd M6 133 0) : Int) := hcap
  refine Sf.m (Q := fun q => OKb (fT (sW s)) q.1 ∧ ∀ j, rd q.1 133 j = rd M6 133 j) ?_ (fun M9 _ p9 => Sf.b (fun M10 e10 => ?_))
  · unfold mJ5_putStringAt_47b60
    have hinf : mJ5_inflateIfNeededFor_a7421 11 M6 = some () := by
      unfold mJ5_inflateIfNeededFor_a7421 ite2
      rw [if_neg (by decide), show mJ0_coder_7d493 11 M6 = some 0 from rfl]
      show (if rd M6 133 1 = 0 then some () else none) = some ()
      rw [if_pos (sb_c0 h6.1)]
    rw [hinf]
    refine Sf.c (Q := fun _ => True) ⟨(), rfl, trivial⟩ (fun _ _ => ?_)
    refine Sf.m (Q := fun q => OKb (fT (sW s)) q.1 ∧ ∀ j, rd q.1 133 j = rd M6 133 j) ?_ (fun M7 _ p7 => Sf.ok p7)
    unfold mJ0_getBytes_840e7
    rw [show mJ0_coder_7d493 11 M6 = some 0 from rfl, sb_c0 h6.1]
    refine Sf.c (Q := fun r => r = 0) ⟨0, rfl, rfl⟩ (fun r er => ?_)
    subst er
    refine Sf.i (fun _ => ?_) (fun c => absurd rfl c)
    rw [sh_l]
    have sl : stLen 11 = 6 := by decide +kernel
    refine Sf.k ?_ (Sf.b (fun M5 e5 => Sf.ok ⟨?_, fun j => ?_⟩))
    · rw [Bool.and_eq_true]
      refine ⟨?_, decide_eq_true ?_⟩
      · rw [decide_eq_false (fun c => ?_)]
        · rfl
        · have c := i_lt.mp c
          rw [show ((0 : Int32)).toInt = 0 from rfl, hn] at c
          omega
      · rw [sl, i_clamp, hn]; omega
    · rw [e5]
      intro k j
      have hh := h6.1 k j
      by_cases e : k = sbv 133 (rd M6 133 0)
      · have hb := sbv_b (f := fT (sW s)) (v := rd M6 133 0) j
        rw [← e] at hb
        rw [hb] at hh ⊢
        show (-128 : Int) ≤ ((if k = sbv 133 (rd M6 133 0) then va_cpy (stF 11) (M6.1 (sbv 133 (rd M6 133 0))) 0 (rd M6 133 3).toNatClampNeg (stLen 11) else M6.1 k) j).toInt ∧ ((if k = sbv 133 (rd M6 133 0) then va_cpy (stF 11) (M6.1 (sbv 133 (rd M6 133 0))) 0 (rd M6 133 3).toNatClampNeg (stLen 11) else M6.1 k) j).toInt ≤ 127
        rw [if_pos e]
        unfold va_cpy
        split
        · rename_i cj
          have key : ∀ i, i < 6 → (-128 : Int) ≤ (stF 11 i).toInt ∧ (stF 11 i).toInt ≤ 127 := by decide +kernel
          exact key _ (by rw [sl] at cj; omega)
        · rw [← e]; exact hh
      · have e1 : rd (cpS M6 11 (sbv 133 (rd M6 133 0)) (rd M6 133 3).toNatClampNeg) k j = rd M6 k j := by
          show (if k = sbv 133 (rd M6 133 0) then va_cpy (stF 11) (M6.1 (sbv 133 (rd M6 133 0))) 0 (rd M6 133 3).toNatClampNeg (stLen 11) else M6.1 k) j = M6.1 k j
          rw [if_neg e]
        rw [e1]; exact hh
    · show rd M5 133 j = rd M6 133 j
      rw [e5]
      show (if 133 = sbv 133 (rd M6 133 0) then va_cpy (stF 11) (M6.1 (sbv 133 (rd M6 133 0))) 0 (rd M6 133 3).toNatClampNeg (stLen 11) else M6.1 133) j = M6.1 133 j
      rw [if_neg sbv_ne]
  · have h9 : OKb (fT (sW s)) M9 := p9.1
    have f9 : ∀ j, rd M9 133 j = rd M6 133 j := p9.2
    have l10 : rd M10 133 0 = rd M6 133 0 := by rw [e10, rd_wj (by decide)]; exact f9 0
    have c10 : rd M10 133 3 = rd M 133 3 + 6 := by rw [e10, rd_we, f9 3, hn]
    refine Sf.k (decide_eq_true l10) (Sf.ok ⟨⟨by rw [e10]; exact sb_set3 h9 (by rw [f9 3, hn]; omega), ?_⟩, ?_⟩)
    · rw [c10, l10]; exact hcap
    · show (rd M10 133 3).toInt ≤ _
      rw [c10]; omega
end SBS
