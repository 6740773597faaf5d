/-! the StringBuilder: write, written -/
abbrev sW (s : Nat → Int × Int) : Nat → Int × Int := fun i => if i = 0 then (0, 2) else if i = 2 then (0, 70) else s i
def SBi (s : Nat → Int × Int) (M : Mem) : Prop := OKb (fT (sW s)) M ∧ (rd M 133 3).toInt ≤ (sbn (rd M 133 0) : Int)
section SBS
variable {s : Nat → Int × Int} {f : Bx} {M : Mem} {x1 : Int32}
theorem sb_lvl (h : OKb (fT (sW s)) M) : rd M 133 0 = 0 ∨ rd M 133 0 = 1 ∨ rd M 133 0 = 2 := by
  have b : (0 : Int) ≤ (rd M 133 0).toInt ∧ (rd M 133 0).toInt ≤ 2 := h 133 0
  have h3 : (rd M 133 0).toInt = 0 ∨ (rd M 133 0).toInt = 1 ∨ (rd M 133 0).toInt = 2 := by omega
  exact h3.imp (fun e => i_eq.mpr e) (Or.imp (fun e => i_eq.mpr e) (fun e => i_eq.mpr e))
theorem sb_c0 (h : OKb (fT (sW s)) M) : rd M 133 1 = 0 := by
  have b : (0 : Int) ≤ (rd M 133 1).toInt ∧ (rd M 133 1).toInt ≤ 0 := h 133 1
  exact i_eq.mpr (by rw [show ((0 : Int32)).toInt = 0 from rfl]; omega)
theorem sb_n (h : OKb (fT (sW s)) M) : (0 : Int) ≤ (rd M 133 3).toInt ∧ (rd M 133 3).toInt ≤ 70 := h 133 3
theorem sh_l (x : Int32) : x <<< ((0 : Int32) &&& 31) = x := by rw [show ((0 : Int32) &&& 31) = 0 from by decide]; exact Int32.shiftLeft_zero
theorem sh_r (x : Int32) : x >>> ((0 : Int32) &&& 31) = x := by rw [show ((0 : Int32) &&& 31) = 0 from by decide]; exact Int32.shiftRight_zero
theorem okb_zr {k : Nat} (h : OKb f M) (hb : ∀ j, (bxc f k j).1 ≤ 0 ∧ 0 ≤ (bxc f k j).2) : OKb f (zr M k) := by
  intro k' j'
  by_cases e : k' = k
  · subst e
    have e1 : rd (zr M k') k' j' = 0 := by
      show (if k' = k' then fun _ => (0 : Int32) else M.1 k') j' = 0
      rw [if_pos rfl]
    rw [e1]; exact hb j'
  · have e1 : rd (zr M k) k' j' = rd M k' j' := by
      show (if k' = k then fun _ => (0 : Int32) else M.1 k') j' = M.1 k' j'
      rw [if_neg e]
    rw [e1]; exact h k' j'
theorem newCap {v : Int32} {n : Int} (hl : rd M 133 0 = v) (hc : rd M 133 1 = 0) (hN : (Int32.ofNat (sbn v)).toInt = n) (hn : 0 < n ∧ n < 1000) (h1 : n < x1.toInt ∧ x1.toInt ≤ 2 * n + 2) : Sf (mJ5_newCapacity_0f7a4 x1 M) (fun r => r.toInt = 2 * n + 2) := by
  unfold mJ5_newCapacity_0f7a4
  rw [hl, hc]
  refine Sf.b (fun x2 e2 => Sf.b (fun x3 e3 => Sf.b (fun x4 e4 => ?_)))
  rw [sh_l] at e3
  have t2 : x2.toInt = n := by rw [e2]; exact hN
  have t4 : x4.toInt = x1.toInt - n := by rw [e4, e3, i_sub (by omega) (by omega), t2]
  have n2 : ((2 : Int32)).toInt = 2 := rfl
  refine Sf.c (Q := fun r => r.toInt = 2 * n + 2) ?_ (fun r6 h6 => ?_)
  · unfold mJ8_newLength_cabcc
    refine Sf.b (fun x5 e5 => ?_)
    rw [sh_l] at e5
    have t5 : (x2 + 2).toInt = n + 2 := by rw [i_add (by omega) (by omega), t2, n2]
    have em := i_max (a := x4) (b := x2 + 2)
    have e5' : x5.toInt = 2 * n + 2 := by rw [e5, i_add (by omega) (by omega)]; omega
    refine Sf.i (fun c => ?_) (fun _ => Sf.i (fun c => ?_) (fun _ => Sf.ok e5'))
    · have c := i_le.mp c
      rw [show ((0 : Int32)).toInt = 0 from rfl] at c
      exfalso; omega
    · have c := i_lt.mp c
      rw [show ((2147483639 : Int32)).toInt = 2147483639 from rfl] at c
      exfalso; omega
  · refine Sf.i (fun c => ?_) (fun _ => Sf.ok ?_)
    · have c := congrArg Int32.toInt c
      rw [show ((2147483647 : Int32)).toInt = 2147483647 from rfl] at c
      exfalso; omega
    · rw [sh_r]; exact h6
theorem fit_b {k n : Nat} (h : ∀ j, (-128 : Int) ≤ (rd M k j).toInt ∧ (rd M k j).toInt ≤ 127) : fitB (M.1 k) n = true := by
  unfold fitB
  refine List.all_eq_true.mpr (fun j _ => ?_)
  show ((-128 : Int32) ≤ M.1 k j && M.1 k j ≤ 127) = true
  rw [Bool.and_eq_true]
  have h1 := h j
  exact ⟨decide_eq_true (i_le.mpr h1.1), decide_eq_true (i_le.mpr h1.2)⟩
theorem b_154 (j : Nat) : bxc f 154 j = (-128, 127) := rfl
theorem b_155 (j : Nat) : bxc f 155 j = (-128, 127) := rfl
theorem b_134 (j : Nat) : bxc f 134 j = (-128, 127) := rfl
/-- one growth -/
theorem sb_grow {v v' : Int32} {id id' n n' : Nat} (h : OKb (fT (sW s)) M) (hl : rd M 133 0 = v) (hv : v = 0 ∨ v = 1) (hv' : v + 1 = v') (e1 : sbv 133 v = id) (e2 : sbv 133 v' = id') (e3 : sbn v = n) (e4 : sbn v' = n') (hb : ∀ j, bxc (fT (sW s)) id j = (-128, 127)) (hb' : ∀ j, bxc (fT (sW s)) id' j = (-128, 127)) (hid : id ≠ 133 ∧ id' ≠ 133) (hn : (n : Int) < x1.toInt ∧ x1.toInt ≤ n') (hw : n' = 2 * n + 2 ∧ 0 < n ∧ n < 1000) (hvb : 0 ≤ v'.toInt ∧ v'.toInt ≤ 2) (hcnt : (rd M 133 3).toInt ≤ (n : Int)) : Sf (mJ5_ensureCapacityInternal_d00df x1 M) (fun q => SBi s q.1 ∧ x1.toInt ≤ (sbn (rd q.1 133 0) : Int) ∧ rd q.1 133 3 = rd M 133 3) := by
  have hc := sb_c0 h
  have hN : (Int32.ofNat n).toInt = (n : Int) := toInt_of rfl (by omega)
  unfold mJ5_ensureCapacityInternal_d00df
  rw [hl, hc, hv', e1, e2, e3, e4]
  refine Sf.b (fun x2 ex => ?_)
  rw [sh_r] at ex
  have t2 : x2.toInt = (n : Int) := by rw [ex]; exact hN
  refine Sf.i (fun c => ?_) (fun _ => ?_)
  · have c := i_le.mp c
    rw [i_sub (by omega) (by omega), show ((0 : Int32)).toInt = 0 from rfl] at c
    exfalso; omega
  · refine Sf.c (newCap hl hc (by rw [e3]; exact hN) ⟨by omega, by omega⟩ ⟨by omega, by omega⟩) (fun r6 h6 => Sf.k ?_ (Sf.b (fun M9 e9 => Sf.ok ?_)))
    · rw [sh_l, Bool.and_eq_true, Bool.and_eq_true]
      refine ⟨decide_eq_true hv, decide_eq_true (i_eq.mpr ?_), fit_b (fun j => ?_)⟩
      · rw [h6, show (Int32.ofNat n').toInt = (n' : Int) from toInt_of rfl (by omega)]; omega
      · have := h id j; rw [hb j] at this; exact this
    · have o1 : OKb (fT (sW s)) (zr M id') := okb_zr h (fun j => by rw [hb' j]; decide)
      have o2 : OKb (fT (sW s)) (cpy (zr M id') id id' 0 0 n) := o1.cp (fun j => (hb j).trans (hb' j).symm)
      have o3 : OKb (fT (sW s)) M9 := by rw [e9]; exact o2.put (b := (0, 2)) rfl hvb
      have l9 : rd M9 133 0 = v' := by rw [e9]; exact rd_we
      have c9 : rd M9 133 3 = rd M 133 3 := by
        rw [e9, rd_wj (by decide)]
        have e8 : rd (cpy (zr M id') id id' 0 0 n) 133 3 = rd (zr M id') 133 3 := congrFun (cpy_o (M := zr M id') (a := id) (sp := 0) (dp := 0) (n := n) 133 (fun e => hid.2 e.symm)).1 3
        rw [e8]
        show (if 133 = id' then fun _ => (0 : Int32) else M.1 133) 3 = M.1 133 3
        rw [if_neg (fun e => hid.2 e.symm)]
      refine ⟨⟨o3, ?_⟩, ?_, c9⟩
      · rw [l9, c9, e4]; omega
      · rw [l9, e4]; omega
theorem sb_ens (h : SBi s M) (h1 : 0 ≤ x1.toInt ∧ x1.toInt ≤ 70) (h2 : x1.toInt ≤ (rd M 133 3).toInt + 11) : Sf (mJ5_ensureCapacityInternal_d00df x1 M) (fun q => SBi s q.1 ∧ x1.toInt ≤ (sbn (rd q.1 133 0) : Int) ∧ rd q.1 133 3 = rd M 133 3) := by
  have stay : x1.toInt ≤ (sbn (rd M 133 0) : Int) → Sf (mJ5_ensureCapacityInternal_d00df x1 M) (fun q => SBi s q.1 ∧ x1.toInt ≤ (sbn (rd q.1 133 0) : Int) ∧ rd q.1 133 3 = rd M 133 3) := by
    intro h3
    have hb : sbn (rd M 133 0) ≤ 70 := by unfold sbn; split <;> first | decide | (split <;> decide)
    have hN : (Int32.ofNat (sbn (rd M 133 0))).toInt = (sbn (rd M 133 0) : Int) := toInt_of rfl (by omega)
    unfold mJ5_ensureCapacityInternal_d00df
    refine Sf.b (fun x2 ex => Sf.i (fun _ => Sf.ok ⟨h, h3, rfl⟩) (fun c => ?_))
    rw [sb_c0 h.1, sh_r] at ex
    have t2 : x2.toInt = (sbn (rd M 133 0) : Int) := by rw [ex]; exact hN
    have c := i_nle c
    rw [i_sub (by omega) (by omega), show ((0 : Int32)).toInt = 0 from rfl] at c
    exfalso; omega
  have hc := sb_n h.1
  have h5 := h.2
  rcases sb_lvl h.1 with e | e | e
  · rw [e] at h5 stay
    have s0 : sbn 0 = 16 := rfl
    rw [s0] at h5 stay
    by_cases c : x1.toInt ≤ 16
    · exact stay c
    · exact sb_grow (v := 0) (v' := 1) (id := 134) (id' := 154) (n := 16) (n' := 34) h.1 e (Or.inl rfl) rfl rfl rfl rfl rfl b_134 b_154 ⟨by decide, by decide⟩ ⟨by omega, by omega⟩ ⟨by decide, by decide, by decide⟩ ⟨by decide, by decide⟩ (by omega)
  · rw [e] at h5 stay
    have s0 : sbn 1 = 34 := rfl
    rw [s0] at h5 stay
    by_cases c : x1.toInt ≤ 34
    · exact stay c
    · exact sb_grow (v := 1) (v' := 2) (id := 154) (id' := 155) (n := 34) (n' := 70) h.1 e (Or.inr rfl) rfl rfl rfl rfl rfl b_154 b_155 ⟨by decide, by decide⟩ ⟨by omega, by omega⟩ ⟨by decide, by decide, by decide⟩ ⟨by decide, by decide⟩ (by omega)
  · rw [e] at stay
    exact stay (by show x1.toInt ≤ ((70 : Nat) : Int); omega)
end SBS
