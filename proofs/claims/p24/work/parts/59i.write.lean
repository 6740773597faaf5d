/-! the reference's write, written -/
def WO (M M' : Mem) : Prop := ∀ k j, k ≠ 151 → ¬ (k = 135 ∧ j = 30) → rd M' k j = rd M k j
section WI
variable {M M' : Mem} {n m : Nat} {x1 : Int32}
theorem WO.trans {M'' : Mem} (h : WO M M') (h' : WO M' M'') : WO M M'' := fun k j h1 h2 => (h' k j h1 h2).trans (h k j h1 h2)
theorem wo_n (h : OKm gS M) : (0 : Int) ≤ (rd M 135 30).toInt ∧ (rd M 135 30).toInt ≤ 120 := h.std 135 30
theorem sX7_put (h : OKm gS M) (hc : (rd M 135 30).toInt < 120) : Sf (mX7_put 135 x1 M) (fun q => OKm gS q.1 ∧ WO M q.1 ∧ (rd q.1 135 30).toInt = (rd M 135 30).toInt + 1) := by
  unfold mX7_put
  have b := wo_n h
  refine Sf.k (ok_in (by omega) (by omega)) (Sf.b (fun M3 e3 => Sf.b (fun M4 e4 => Sf.ok ?_)))
  have e3 : M3 = wr M 151 (rd M 135 30).toNatClampNeg x1 := e3
  have n1 : ((1 : Int32)).toInt = 1 := rfl
  have r30 : rd M3 135 30 = rd M 135 30 := by rw [e3]; exact rd_wk (by decide)
  have t4 : (rd M3 135 30 + 1).toInt = (rd M 135 30).toInt + 1 := by rw [r30, i_add (by omega) (by omega), n1]
  have o3 : OKm gS M3 := by rw [e3]; exact h.put (b := bT) rfl (i_rng _)
  refine ⟨by show OKm gS M4; rw [e4]; exact o3.put (b := (0, 120)) rfl (by rw [t4]; exact ⟨by show (0 : Int) ≤ _; omega, by show _ ≤ (120 : Int); omega⟩), fun k j k1 k2 => ?_, ?_⟩
  · show rd M4 k j = _
    rw [e4]
    by_cases k3 : k = 135
    · subst k3; rw [rd_wj (by omega), e3, rd_wk (by decide)]
    · rw [rd_wk k3, e3, rd_wk k1]
  · show (rd M4 135 30).toInt = _
    rw [e4, rd_we, t4]
def un : Nat → Int32
  | 0 => 0
  | 1 => 1
  | 2 => 10
  | 3 => 100
  | _ => 1000
theorem un_div : ∀ k, k < 4 → un (k + 1) / (10 : Int32) = un k ∧ 0 < (un (k + 1)).toInt := by decide +kernel
theorem un_mul : ∀ k, k < 3 → (10 : Int32) * un (k + 1) = un (k + 2) := by decide +kernel
theorem un_pos : ∀ k, k < 4 → nzb (un (k + 1)) = true := by decide
theorem num_put : ∀ (fuel k : Nat) (M : Mem), k ≤ 4 → OKm gS M → (rd M 135 30).toInt + k ≤ 120 → k < fuel → Sf (mX7_putNumber_l18 135 fuel x1 (un k) M) (fun q => OKm gS q.1 ∧ WO M q.1 ∧ (rd q.1 135 30).toInt = (rd M 135 30).toInt + k) := by
  intro fuel
  induction fuel with
  | zero => intro k M _ _ _ h; exfalso; omega
  | succ fuel IH =>
    intro k M hk h hc hf
    show Sf (mX7_putNumber_b18 135 (mX7_putNumber_l18 135 fuel) x1 (un k) M) _
    unfold mX7_putNumber_b18
    refine Sf.i (fun c => Sf.ok ⟨h, fun _ _ _ _ => rfl, ?_⟩) (fun c => ?_)
    · have : k = 0 := by
        rcases Nat.eq_zero_or_pos k with q | q
        · exact q
        · have u := (un_div (k - 1) (by omega)).2
          rw [show k - 1 + 1 = k by omega] at u
          have c := i_le.mp c
          rw [show ((0 : Int32)).toInt = 0 from rfl] at c
          omega
      subst this
      show (rd M 135 30).toInt = _
      omega
    · have hk0 : k ≠ 0 := fun e => c (by rw [e]; decide)
      obtain ⟨j, rfl⟩ : ∃ j, k = j + 1 := ⟨k - 1, by omega⟩
      refine Sf.k (un_pos j (by omega)) (Sf.m (sX7_put h (by omega)) (fun M7 _ p => Sf.b (fun y ey => ?_)))
      rw [(un_div j (by omega)).1] at ey
      subst ey
      have c7 : (rd M7 135 30).toInt = (rd M 135 30).toInt + 1 := p.2.2
      have w7 : WO M M7 := p.2.1
      refine Sf.mono (IH j M7 (by omega) p.1 (by omega) (by omega)) (fun q hq => ⟨hq.1, w7.trans hq.2.1, ?_⟩)
      have := hq.2.2
      omega
theorem num_unit (hx : 0 ≤ x1.toInt ∧ x1.toInt ≤ 9999) (h : OKm gS M) (hc : (rd M 135 30).toInt + 4 ≤ 120) : ∀ (fuel k : Nat), k < 4 → 4 - k < fuel → Sf (mX7_putNumber_l2 135 fuel x1 (un (k + 1)) M) (fun q => OKm gS q.1 ∧ WO M q.1 ∧ (rd q.1 135 30).toInt ≤ (rd M 135 30).toInt + 4) := by
  intro fuel
  induction fuel with
  | zero => intro k _ h; exfalso; omega
  | succ fuel IH =>
    intro k hk hf
    show Sf (mX7_putNumber_b2 135 (mX7_putNumber_l2 135 fuel) x1 (un (k + 1)) M) _
    unfold mX7_putNumber_b2
    refine Sf.k (un_pos k hk) (Sf.i (fun _ => ?_) (fun c => ?_))
    · refine Sf.mono (num_put 5000 (k + 1) M (by omega) h (by omega) (by omega)) (fun q hq => ⟨hq.1, hq.2.1, ?_⟩)
      have := hq.2.2
      omega
    · by_cases k3 : k = 3
      · exfalso
        subst k3
        apply c
        apply i_le.mpr
        have u : (un (3 + 1)).toInt = 1000 := by decide
        rw [i_div hx.1 (by omega), u, show ((9 : Int32)).toInt = 9 from rfl]
        omega
      · refine Sf.b (fun y ey => ?_)
        rw [un_mul k (by omega)] at ey
        subst ey
        exact IH (k + 1) (by omega) (by omega)
theorem sX7_putNumber (hx : 0 ≤ x1.toInt ∧ x1.toInt ≤ 9999) (h : OKm gS M) (hc : (rd M 135 30).toInt + 4 ≤ 120) : Sf (mX7_putNumber 135 x1 M) (fun q => OKm gS q.1 ∧ WO M q.1 ∧ (rd q.1 135 30).toInt ≤ (rd M 135 30).toInt + 4) := by
  unfold mX7_putNumber
  exact num_unit hx h hc 5000 0 (by decide) (by decide)
theorem sX7_putBend (h : OKm gS M) (hx : 0 ≤ x1.toInt ∧ x1.toInt ≤ 7) (hc : (rd M 135 30).toInt + 2 ≤ 120) : Sf (mX7_putBend 135 x1 M) (fun q => OKm gS q.1 ∧ WO M q.1 ∧ (rd q.1 135 30).toInt ≤ (rd M 135 30).toInt + 2) := by
  have b21 : ∀ y : Int32, Sf (mX7_putBend_b21 135 x1 y M) (fun q => OKm gS q.1 ∧ WO M q.1 ∧ (rd q.1 135 30).toInt ≤ (rd M 135 30).toInt + 2) := by
    intro y
    unfold mX7_putBend_b21
    refine Sf.m (sX7_put h (by omega)) (fun M5 _ p => Sf.k (by decide) ?_)
    have h5 : OKm gS M5 := p.1
    have c5 : (rd M5 135 30).toInt = (rd M 135 30).toInt + 1 := p.2.2
    have w5 : WO M M5 := p.2.1
    have bm : (0 : Int) ≤ (rd M5 (135 + 1) ((52 : Int32)).toNatClampNeg).toInt ∧ (rd M5 (135 + 1) ((52 : Int32)).toNatClampNeg).toInt ≤ 255 := h5.std 136 52
    refine Sf.c (sX7_has h5 bm hx) (fun r8 _ => Sf.i (fun _ => Sf.ok ⟨h5, w5, by show (rd M5 135 30).toInt ≤ _; omega⟩) (fun _ => Sf.m (sX7_put h5 (by omega)) (fun M13 _ p13 => Sf.ok ⟨p13.1, w5.trans p13.2.1, ?_⟩)))
    have c13 : (rd M13 135 30).toInt = (rd M5 135 30).toInt + 1 := p13.2.2
    show (rd M13 135 30).toInt ≤ _
    omega
  unfold mX7_putBend
  have n11 : ((11 : Int32)).toInt = 11 := rfl
  have e := i_add (a := (11 : Int32)) (b := x1) (by omega) (by omega)
  exact Sf.k (ok_in (by omega) (by omega)) (Sf.i (fun _ => b21 _) (fun _ => b21 _))
theorem sum_costs (h : OKm gS M) : Sf (mX7_sumOfCosts 135 M) (pI 0 2376) := by
  have key : ∀ (fuel : Nat) (x1 x2 : Int32), 0 ≤ x2.toInt ∧ x2.toInt ≤ 8 → 0 ≤ x1.toInt ∧ x1.toInt ≤ 297 * x2.toInt → 8 - x2.toInt < fuel → Sf (mX7_sumOfCosts_l4 135 M fuel x1 x2) (pI 0 2376) := by
    intro fuel
    induction fuel with
    | zero => intro x1 x2 _ _ h; exfalso; omega
    | succ fuel IH =>
      intro x1 x2 h2 h1 hf
      show Sf (mX7_sumOfCosts_b4 135 M (mX7_sumOfCosts_l4 135 M fuel) x1 x2) _
      unfold mX7_sumOfCosts_b4
      have b : (0 : Int) ≤ (rd M (135 + 1) ((53 : Int32)).toNatClampNeg).toInt ∧ (rd M (135 + 1) ((53 : Int32)).toNatClampNeg).toInt ≤ 8 := h.std 136 53
      have n1 : ((1 : Int32)).toInt = 1 := rfl
      refine Sf.k (by decide) (Sf.i (fun _ => Sf.ok ⟨h1.1, by omega⟩) (fun c => ?_))
      have c := i_nle c
      refine Sf.c (sX7_stepOf3 h (by omega)) (fun r4 p4 => Sf.b (fun y1 e1 => Sf.b (fun y2 e2 => ?_)))
      obtain ⟨pa, pb⟩ := p4
      have t1 : y1.toInt = x1.toInt + r4.toInt := by rw [e1]; exact i_add (by omega) (by omega)
      have t2 : y2.toInt = x2.toInt + 1 := by rw [e2]; exact i_add (by omega) (by omega)
      exact IH y1 y2 (by omega) (by omega) (by omega)
  unfold mX7_sumOfCosts
  exact key 5000 0 0 (by decide) (by decide) (by decide)
theorem put_cost : ∀ (fuel i : Nat) (M : Mem), i ≤ 6 → OKm gS M → (rd M 135 30).toInt + (10 - i) ≤ 120 → 6 - i < fuel → Sf (mX7_putCost_l6 135 fuel (Int32.ofNat i) M) (fun q => OKm gS q.1 ∧ WO M q.1) := by
  intro fuel
  induction fuel with
  | zero => intro i M _ _ _ h; exfalso; omega
  | succ fuel IH =>
    intro i M hi h hc hf
    show Sf (mX7_putCost_b6 135 (mX7_putCost_l6 135 fuel) (Int32.ofNat i) M) _
    unfold mX7_putCost_b6
    rw [sJ0_length (by decide), show (some (Int32.ofNat (stLen 11)) : Option Int32) = some 6 from by decide +kernel]
    have ti : (Int32.ofNat i).toInt = (i : Int) := t_of (by omega)
    refine Sf.c (Q := fun r => r = 6) ⟨6, rfl, rfl⟩ (fun r er => ?_)
    subst er
    refine Sf.i (fun c => ?_) (fun c => ?_)
    · refine Sf.c (sum_costs h) (fun r6 p6 => Sf.m (sX7_putNumber ⟨p6.1, by have := p6.2; omega⟩ h (by omega)) (fun M10 _ p => Sf.ok ⟨p.1, p.2.1⟩))
    · have c := i_nle c
      rw [ti, show ((6 : Int32)).toInt = 6 from rfl] at c
      refine Sf.c (sJ0_charAt (k := 11) (by decide) (by omega) (by rw [ti, show stLen 11 = 6 from by decide +kernel]; omega)) (fun r12 _ => Sf.m (sX7_put h (by omega)) (fun M16 _ p => Sf.b (fun y ey => ?_)))
      have ey : y = Int32.ofNat (i + 1) := ey.trans (Int32.ofNat_add i 1).symm
      have c16 : (rd M16 135 30).toInt = (rd M 135 30).toInt + 1 := p.2.2
      have w16 : WO M M16 := p.2.1
      rw [ey]
      exact Sf.mono (IH (i + 1) M16 (by omega) p.1 (by omega) (by omega)) (fun q hq => ⟨hq.1, w16.trans hq.2⟩)
theorem write_l : ∀ (fuel i : Nat) (M : Mem), i ≤ 9 → OKm gS M → (rd M 135 30).toInt ≤ 6 * i → 9 - i < fuel → Sf (mX7_write_l12 135 fuel (Int32.ofNat i) M) (fun q => OKm gS q.1 ∧ WO M q.1) := by
  intro fuel
  induction fuel with
  | zero => intro i M _ _ _ h; exfalso; omega
  | succ fuel IH =>
    intro i M hi h hc hf
    show Sf (mX7_write_b12 135 (mX7_write_l12 135 fuel) (Int32.ofNat i) M) _
    unfold mX7_write_b12
    have ti : (Int32.ofNat i).toInt = (i : Int) := t_of (by omega)
    have b1 : (0 : Int) ≤ (rd M (135 + 1) ((1 : Int32)).toNatClampNeg).toInt ∧ (rd M (135 + 1) ((1 : Int32)).toNatClampNeg).toInt ≤ 9 := h.std 136 1
    refine Sf.k (by decide) (Sf.i (fun _ => Sf.k (by decide) (Sf.i (fun _ => Sf.ok ⟨h, fun _ _ _ _ => rfl⟩) (fun _ => ?_))) (fun c => ?_))
    · unfold mX7_putCost
      exact Sf.m (put_cost 5000 0 M (by omega) h (by omega) (by omega)) (fun M11 _ p => Sf.ok p)
    · have c := i_nle c
      have n2 : ((2 : Int32)).toInt = 2 := rfl
      have e := i_add (a := (2 : Int32)) (b := Int32.ofNat i) (by omega) (by omega)
      have bl : (0 : Int) ≤ (rd M (135 + 1) ((2 : Int32) + Int32.ofNat i).toNatClampNeg).toInt ∧ (rd M (135 + 1) ((2 : Int32) + Int32.ofNat i).toNatClampNeg).toInt ≤ 9999 := h.ri 2 10 (by decide +kernel) (by omega) (by omega)
      refine Sf.k (ok_in (by omega) (by omega)) (Sf.m (sX7_putNumber bl h (by omega)) (fun M15 _ p => Sf.k (by decide) ?_))
      have h15 : OKm gS M15 := p.1
      have w15 : WO M M15 := p.2.1
      have c15 : (rd M15 135 30).toInt ≤ (rd M 135 30).toInt + 4 := p.2.2
      have nx : ∀ M', OKm gS M' → WO M M' → (rd M' 135 30).toInt ≤ 6 * i + 6 → Sf (mX7_write_b49 135 (mX7_write_l12 135 fuel) (Int32.ofNat i) M') (fun q => OKm gS q.1 ∧ WO M q.1) := by
        intro M' h' w' c'
        unfold mX7_write_b49
        refine Sf.b (fun y ey => ?_)
        have ey : y = Int32.ofNat (i + 1) := ey.trans (Int32.ofNat_add i 1).symm
        rw [ey]
        exact Sf.mono (IH (i + 1) M' (by omega) h' (by omega) (by omega)) (fun q hq => ⟨hq.1, w'.trans hq.2⟩)
      have bn : (0 : Int) ≤ (rd M15 (135 + 1) ((0 : Int32)).toNatClampNeg).toInt ∧ (rd M15 (135 + 1) ((0 : Int32)).toNatClampNeg).toInt ≤ 8 := h15.std 136 0
      refine Sf.i (fun _ => nx M15 h15 w15 (by omega)) (fun cn => ?_)
      have cn := i_nle cn
      refine Sf.m (sX7_putBend h15 (by omega) (by omega)) (fun M21 _ p21 => nx M21 p21.1 (w15.trans p21.2.1) ?_)
      have c21 : (rd M21 135 30).toInt ≤ (rd M15 135 30).toInt + 2 := p21.2.2
      omega
theorem sX7_write (h : MI M) : Sf (mX7_write 135 M) (MP M) := by
  unfold mX7_write
  refine Sf.b (fun M1 e1 => Sf.b (fun M3 e3 => ?_))
  have h1 : MI M1 := by rw [e1]; exact h.th.1
  have k1 : rd M1 135 7 = rd M 135 7 := by rw [e1]; exact h.th.2
  have o3 : OKm gS M3 := by rw [e3]; exact h1.1.put (b := (0, 120)) rfl (by decide)
  have w3 : WO M1 M3 := fun k j k2 k3 => by
    rw [e3]
    by_cases k4 : k = 135
    · subst k4; exact rd_wj (by omega)
    · exact rd_wk k4
  have c3 : (rd M3 135 30).toInt = 0 := by rw [e3, rd_we]; rfl
  refine Sf.mono (write_l 5000 0 M3 (by omega) o3 (by omega) (by omega)) (fun q hq => ?_)
  have w : WO M1 q.1 := w3.trans hq.2
  obtain ⟨_, ⟨n, m, hR⟩, hH⟩ := h1
  refine ⟨⟨hq.1, ⟨n, m, hR.of (fun j => w 136 j (by decide) (by omega))⟩, fun e' he' => ?_⟩, (w 135 7 (by decide) (by omega)).trans k1⟩
  rw [w 135 4 (by decide) (by omega)] at he'
  obtain ⟨n, m, hr⟩ := hH e' he'
  exact ⟨n, m, hr.of (fun j => w 139 _ (by decide) (by omega))⟩
theorem sX7_written (h : MI M) : Sf (mX7_written 135 x1 M) (MP M) := by
  unfold mX7_written
  have b := wo_n h.1
  have n1 : ((1 : Int32)).toInt = 1 := rfl
  have e := i_sub (a := rd M 135 30) (b := 1) (by omega) (by omega)
  refine Sf.c (sX7_between (Int32.toInt_toInt64 _) (b := 0) (by decide) (Int32.toInt_toInt64 _)) (fun r2 p2 => Sf.m (mp_good h p2.1) (fun M6 r5 p => Sf.i (fun _ => Sf.ok p.1) (fun c => ?_)))
  have hx := p2.2.resolve_left (p.2.2.resolve_left (i_ne c))
  exact Sf.k (ok_in (by omega) (by omega)) (Sf.k (isC_mod _) (Sf.ok ⟨p.1.1, p.1.2⟩))
end WI
