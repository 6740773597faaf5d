/-! the reference's load, feed -/
section LK
variable {M M' M0 : Mem} {n m : Nat} {x1 x2 x3 x4 x5 : Int32}
theorem lay_s {i : Int32} {j : Nat} {a b c : Int32} (h : OKm gS M) (hi : i.toInt = (j : Int) ∧ j + 2 < 86) (ha : (bxS 0 j).1 ≤ a.toInt ∧ a.toInt ≤ (bxS 0 j).2) (hb : (bxS 0 (j + 1)).1 ≤ b.toInt ∧ b.toInt ≤ (bxS 0 (j + 1)).2) (hc : (bxS 0 (j + 2)).1 ≤ c.toInt ∧ c.toInt ≤ (bxS 0 (j + 2)).2) : Sf (mX7_lay 135 i a b c M) (fun q => OKm gS q.1 ∧ KP M q.1 ∧ rd q.1 137 j = a ∧ ∀ p, ¬ (j ≤ p ∧ p ≤ j + 2) → rd q.1 137 p = rd M 137 p) := by
  unfold mX7_lay
  have n1 : ((1 : Int32)).toInt = 1 := rfl
  have n2 : ((2 : Int32)).toInt = 2 := rfl
  have e1 := i_add (a := i) (b := 1) (by omega) (by omega)
  have e2 := i_add (a := i) (b := 2) (by omega) (by omega)
  refine Sf.k (ok_in (by omega) (by omega)) (Sf.b (fun M3 e3 => Sf.k (ok_in (by omega) (by omega)) (Sf.b (fun M6 e6 => Sf.k (ok_in (by omega) (by omega)) (Sf.b (fun M9 e9 => Sf.ok ?_))))))
  rw [i_clamp, show i.toInt.toNat = j by omega] at e3
  rw [i_clamp, show (i + 1).toInt.toNat = j + 1 by omega] at e6
  rw [i_clamp, show (i + 2).toInt.toNat = j + 2 by omega] at e9
  have e3 : M3 = wr M 137 j a := e3
  have e6 : M6 = wr M3 137 (j + 1) b := e6
  have e9 : M9 = wr M6 137 (j + 2) c := e9
  have o3 : OKm gS M3 := by rw [e3]; exact put137 h ha
  have o6 : OKm gS M6 := by rw [e6]; exact put137 o3 hb
  refine ⟨by show OKm gS M9; rw [e9]; exact put137 o6 hc, ?_, ?_, fun p hp => ?_⟩
  · show KP M M9
    rw [e9, e6, e3]; exact (kp_wr.trans kp_wr).trans kp_wr
  · show rd M9 137 j = a
    rw [e9, rd_wj (by omega), e6, rd_wj (by omega), e3, rd_we]
  · show rd M9 137 p = _
    rw [e9, rd_wj (by omega), e6, rd_wj (by omega), e3, rd_wj (by omega)]
theorem reset_l : ∀ (fuel i : Nat) (M : Mem), i ≤ 86 → OKm gS M → KP M0 M → (∀ p, p < i → rd M 137 p = 0) → 86 - i < fuel → Sf (mX7_reset_l2 135 fuel (Int32.ofNat i) M) (fun q => PI q.1 ∧ KP M0 q.1) := by
  intro fuel
  induction fuel with
  | zero => intro i M _ _ _ _ h; exfalso; omega
  | succ fuel IH =>
    intro i M hi h hk hz hf
    show Sf (mX7_reset_b2 135 (mX7_reset_l2 135 fuel) (Int32.ofNat i) M) _
    unfold mX7_reset_b2
    have ti : (Int32.ofNat i).toInt = (i : Int) := t_of (by omega)
    refine Sf.i (fun c => ?_) (fun c => ?_)
    · have c := i_le.mp c
      rw [ti, show ((86 : Int32)).toInt = 86 from rfl] at c
      refine Sf.m (lay_s (j := 36) h (by decide) (by decide) (by decide) (by decide)) (fun M4 _ p4 => ?_)
      refine Sf.m (lay_s (j := 39) p4.1 (by decide) (by decide) (by decide) (by decide)) (fun M7 _ p7 => ?_)
      refine Sf.m (lay_s (j := 42) p7.1 (by decide) (by decide) (by decide) (by decide)) (fun M10 _ p10 => ?_)
      refine Sf.m (lay_s (j := 45) p10.1 (by decide) (by decide) (by decide) (by decide)) (fun M13 _ p13 => ?_)
      refine Sf.m (lay_s (j := 49) p13.1 (by decide) (by decide) (by decide) (by decide)) (fun M16 _ p16 => Sf.ok ?_)
      have z : ∀ p, p < 36 ∨ (52 ≤ p ∧ p < 86) → rd M16 137 p = 0 := fun p hp => by
        have q16 : rd M16 137 p = rd M13 137 p := p16.2.2.2 p (by omega)
        have q13 : rd M13 137 p = rd M10 137 p := p13.2.2.2 p (by omega)
        have q10 : rd M10 137 p = rd M7 137 p := p10.2.2.2 p (by omega)
        have q7 : rd M7 137 p = rd M4 137 p := p7.2.2.2 p (by omega)
        have q4 : rd M4 137 p = rd M 137 p := p4.2.2.2 p (by omega)
        rw [q16, q13, q10, q7, q4]
        exact hz p (by omega)
      have z36 : rd M16 137 36 = 10 := by
        have q16 : rd M16 137 36 = rd M13 137 36 := p16.2.2.2 36 (by omega)
        have q13 : rd M13 137 36 = rd M10 137 36 := p13.2.2.2 36 (by omega)
        have q10 : rd M10 137 36 = rd M7 137 36 := p10.2.2.2 36 (by omega)
        have q7 : rd M7 137 36 = rd M4 137 36 := p7.2.2.2 36 (by omega)
        have q4 : rd M4 137 36 = 10 := p4.2.2.1
        rw [q16, q13, q10, q7, q4]
      refine ⟨⟨p16.1, ?_, ?_, z 52 (by omega), z 53 (by omega)⟩, ((((hk.trans p4.2.1).trans p7.2.1).trans p10.2.1).trans p13.2.1).trans p16.2.1⟩
      · show (rd M16 137 1).toInt ≤ (rd M16 137 0).toInt + 1
        rw [z 1 (by omega), z 0 (by omega)]; decide
      · show 1 ≤ (rd M16 137 36).toInt
        rw [z36]; decide
    · have c := i_nle c
      rw [ti, show ((86 : Int32)).toInt = 86 from rfl] at c
      refine Sf.k (ok_in (by omega) (by omega)) (Sf.b (fun M19 e19 => Sf.b (fun y ey => ?_)))
      rw [c_of (by omega)] at e19
      have e19 : M19 = wr M 137 i 0 := e19
      have ey : y = Int32.ofNat (i + 1) := ey.trans (Int32.ofNat_add i 1).symm
      rw [ey]
      have key : ∀ i, i < 86 → (bxS 0 i).1 ≤ 0 ∧ 0 ≤ (bxS 0 i).2 := by decide
      refine IH (i + 1) M19 (by omega) (by rw [e19]; exact put137 h (key i (by omega))) (by rw [e19]; exact hk.trans kp_wr) (fun p hp => ?_) (by omega)
      rw [e19]
      by_cases e : p = i
      · subst e; exact rd_we
      · rw [rd_wj e]; exact hz p (by omega)
theorem sX7_reset (h : OKm gS M) : Sf (mX7_reset 135 M) (fun q => PI q.1 ∧ KP M q.1) := by
  unfold mX7_reset
  exact reset_l 5000 0 M (by omega) h (fun _ _ _ _ => rfl) (fun p hp => absurd hp (by omega)) (by omega)
theorem copy_l (h36 : 1 ≤ (rd M0 137 36).toInt) : ∀ (fuel i : Nat) (M : Mem), i ≤ 86 → OKm gS M → (∀ k j, k ≠ 136 → rd M k j = rd M0 k j) → (∀ p, p < i → rd M 136 p = rd M0 137 p) → 86 - i < fuel → Sf (mX7_copy_l2 137 136 fuel (Int32.ofNat i) M) (fun q => OKm gS q.1 ∧ (∀ k j, k ≠ 136 → rd q.1 k j = rd M0 k j) ∧ ∀ p, p < 86 → rd q.1 136 p = rd M0 137 p) := by
  intro fuel
  induction fuel with
  | zero => intro i M _ _ _ _ h; exfalso; omega
  | succ fuel IH =>
    intro i M hi h hk hz hf
    show Sf (mX7_copy_b2 137 136 (mX7_copy_l2 137 136 fuel) (Int32.ofNat i) M) _
    unfold mX7_copy_b2
    have ti : (Int32.ofNat i).toInt = (i : Int) := t_of (by omega)
    refine Sf.i (fun c => Sf.ok ?_) (fun c => ?_)
    · have c := i_le.mp c
      rw [ti, show ((86 : Int32)).toInt = 86 from rfl] at c
      exact ⟨h, hk, fun p hp => hz p (by omega)⟩
    · have c := i_nle c
      rw [ti, show ((86 : Int32)).toInt = 86 from rfl] at c
      refine Sf.k (ok_in (by omega) (by omega)) (Sf.k (ok_in (by omega) (by omega)) (Sf.b (fun M5 e5 => Sf.b (fun y ey => ?_))))
      rw [c_of (by omega)] at e5
      have ey : y = Int32.ofNat (i + 1) := ey.trans (Int32.ofNat_add i 1).symm
      rw [ey]
      have b1 : (bxS 0 i).1 ≤ (rd M 137 i).toInt ∧ (rd M 137 i).toInt ≤ (bxS 0 i).2 := h.std 137 i
      have b2 : (bxS 1 i).1 ≤ (rd M 137 i).toInt ∧ (rd M 137 i).toInt ≤ (bxS 1 i).2 := by
        by_cases e9 : i = 36
        · subst e9
          rw [hk 137 36 (by decide)] at b1 ⊢
          exact ⟨h36, b1.2⟩
        · have key : ∀ i, i < 86 → i ≠ 36 → bxS 1 i = bxS 0 i := by decide
          rw [key i (by omega) e9]; exact b1
      refine IH (i + 1) M5 (by omega) (by rw [e5]; exact put136 h b2) (fun k j k1 => by rw [e5, rd_wk k1]; exact hk k j k1) (fun p hp => ?_) (by omega)
      by_cases e : p = i
      · subst e; rw [e5, rd_we]; exact hk 137 p (by decide)
      · rw [e5, rd_wj e]; exact hz p (by omega)
/-- what a text leaves behind it -/
def LPq (M0 : Mem) (q : Mem × Int32) : Prop := MI q.1 ∧ rd q.1 135 7 = rd M0 135 7
theorem load_end {x : Int32} (h : PI M) (hM : MI M) : Sf (mX7_load_b102 135 x M) (LPq M) := by
  unfold mX7_load_b102
  refine Sf.b (fun M25 e25 => Sf.b (fun M27 e27 => ?_))
  have o25 : OKm gS M25 := by rw [e25]; exact hM.1.put (b := bT) rfl (i_rng _)
  have o27 : OKm gS M27 := by rw [e27]; exact o25.put (b := bT) rfl (i_rng _)
  have r27 : ∀ k j, ¬ (k = 135 ∧ (j = 8 ∨ j = 9)) → rd M27 k j = rd M k j := fun k j q => by
    rw [e27]
    by_cases k1 : k = 135
    · subst k1; rw [rd_wj (by omega), e25, rd_wj (by omega)]
    · rw [rd_wk k1, e25, rd_wk k1]
  obtain ⟨_, ⟨n, m, hR⟩, hH⟩ := hM
  refine Sf.i (fun _ => Sf.ok ⟨⟨o27, ⟨n, m, hR.of (fun j => r27 136 j (by omega))⟩, fun e he => ?_⟩, r27 135 7 (by omega)⟩) (fun _ => ?_)
  · rw [r27 135 4 (by omega)] at he
    obtain ⟨n, m, hr⟩ := hH e he
    exact ⟨n, m, hr.of (fun j => r27 139 _ (by omega))⟩
  · have h36 : 1 ≤ (rd M27 137 36).toInt := by rw [r27 137 36 (by omega)]; exact h.2.2.1
    refine Sf.m (Q := fun q => OKm gS q.1 ∧ (∀ k j, k ≠ 136 → rd q.1 k j = rd M27 k j) ∧ ∀ p, p < 86 → rd q.1 136 p = rd M27 137 p) ?_ (fun M32 _ p => Sf.b (fun M33 e33 => Sf.k (by decide) (Sf.ok ?_)))
    · unfold mX7_copy
      exact copy_l h36 5000 0 M27 (by omega) o27 (fun _ _ _ => rfl) (fun p hp => absurd hp (by omega)) (by omega)
    · have o32 : OKm gS M32 := p.1
      have k32 : ∀ k j, k ≠ 136 → rd M32 k j = rd M27 k j := p.2.1
      have c32 : ∀ j, j < 86 → rd M32 136 j = rd M27 137 j := p.2.2
      have r33 : ∀ j, j < 86 → rd M33 136 j = rd M 137 j := fun j hj => by rw [e33, rd_wk (by decide), c32 j hj, r27 137 j (by omega)]
      have b0 : (0 : Int) ≤ (rd M 137 0).toInt ∧ (rd M 137 0).toInt ≤ 8 := h.1.std 137 0
      refine ⟨⟨by show OKm gS M33; rw [e33]; exact putE o32 (by decide), ⟨(rd M 137 0).toInt.toNat, 0, ?_⟩, fun e he => ?_⟩, ?_⟩
      · have hn : (rd M 137 0).toInt.toNat < 9 := by omega
        have hp := z_pow _ hn
        refine ⟨(r33 0 (by omega)).trans (o_of b0.1), hn, by show rd M33 136 52 = _; rw [r33 52 (by omega), h.2.2.2.1]; rfl, by omega, by show 1 ≤ (rd M33 136 36).toInt; rw [r33 36 (by omega)]; exact h.2.2.1, 0, by show rd M33 136 53 = _; rw [r33 53 (by omega), h.2.2.2.2]; rfl, by rw [cntz0]; omega, fun j hj => absurd hj (by omega)⟩
      · have e4 : rd M33 135 4 = 0 := by rw [e33]; exact rd_we
        have he : (e : Int) < (rd M33 135 4).toInt := he
        rw [e4, show ((0 : Int32)).toInt = 0 from rfl] at he
        omega
      · show rd M33 135 7 = _
        rw [e33, rd_wj (by decide), k32 135 7 (by decide), r27 135 7 (by omega)]
theorem MI.kp (h : MI M) (h' : OKm gS M') (k : KP M M') : MI M' ∧ rd M' 135 7 = rd M 135 7 := by
  obtain ⟨_, ⟨n, m, hR⟩, hH⟩ := h
  refine ⟨⟨h', ⟨n, m, hR.of (fun j => k 136 j (by decide) (by omega))⟩, fun e he => ?_⟩, k 135 7 (by decide) (by omega)⟩
  rw [k 135 4 (by decide) (by omega)] at he
  obtain ⟨n, m, hr⟩ := hH e he
  exact ⟨n, m, hr.of (fun j => k 139 _ (by decide) (by omega))⟩
theorem load_l : ∀ (fuel : Nat) (x : Int32) (M : Mem), 0 ≤ x.toInt ∧ x.toInt ≤ 1 → PI M → MI M → (600 - nx M) + x.toInt < fuel → Sf (mX7_load_l68 135 fuel x M) (LPq M) := by
  intro fuel
  induction fuel with
  | zero => intro x M hx h _ hf; have := nx_b h.1; exfalso; omega
  | succ fuel IH =>
    intro x M hx h hM hf
    show Sf (mX7_load_b68 135 (mX7_load_l68 135 fuel) x M) _
    unfold mX7_load_b68 mX7_load_b97 mX7_load_b98
    refine Sf.i (fun _ => load_end h hM) (fun c => Sf.i (fun _ => load_end h hM) (fun _ => Sf.m (sX7_statement h) (fun M39 r38 p => ?_)))
    have c := i_ne c
    rw [show ((0 : Int32)).toInt = 0 from rfl] at c
    have h39 : PI M39 := p.1
    have k39 : KP M M39 := p.2.1
    have n39 : nx M ≤ nx M39 := p.2.2.2.1
    have m39 := hM.kp h39.1 k39
    refine Sf.i (fun _ => Sf.mono (IH 0 M39 (by decide) h39 m39.1 (by rw [show ((0 : Int32)).toInt = 0 from rfl]; omega)) (fun q hq => ⟨hq.1, hq.2.trans m39.2⟩)) (fun c38 => ?_)
    have st : nx M < nx M39 := p.2.2.2.2 c38
    refine Sf.m (sX7_closed h39) (fun M43 r42 p43 => ?_)
    have h43 : PI M43 := p43.1
    have n43 : nx M39 ≤ nx M43 := p43.2.2.2
    have m43 := m39.1.kp h43.1 p43.2.1
    refine Sf.i (fun _ => Sf.mono (IH 0 M43 (by decide) h43 m43.1 (by rw [show ((0 : Int32)).toInt = 0 from rfl]; omega)) (fun q hq => ⟨hq.1, hq.2.trans (m43.2.trans m39.2)⟩)) (fun _ => Sf.mono (IH 1 M43 (by decide) h43 m43.1 (by rw [show ((1 : Int32)).toInt = 1 from rfl]; omega)) (fun q hq => ⟨hq.1, hq.2.trans (m43.2.trans m39.2)⟩))
theorem MI.set {j : Nat} {v : Int32} (h : MI M) (hj : j ≠ 4) (h' : OKm gS (wr M 135 j v)) : MI (wr M 135 j v) := by
  obtain ⟨_, ⟨n, m, hR⟩, hH⟩ := h
  refine ⟨h', ⟨n, m, hR.of (fun j => rd_wk (by decide))⟩, fun e he => ?_⟩
  rw [rd_wj (fun q => hj q.symm)] at he
  obtain ⟨n, m, hr⟩ := hH e he
  exact ⟨n, m, hr.of (fun j => rd_wk (by decide))⟩
theorem sX7_load (h : MI M) : Sf (mX7_load 135 x1 M) (fun q => MI q.1 ∧ ((rd q.1 135 7 = rd M 135 7 ∧ ¬ (0 ≤ x1.toInt ∧ x1.toInt ≤ (rd M 135 7).toInt)) ∨ ((rd q.1 135 7).toInt = 0 ∧ 0 ≤ x1.toInt ∧ x1.toInt ≤ (rd M 135 7).toInt))) := by
  unfold mX7_load mX7_between
  have b7 : (0 : Int) ≤ (rd M 135 7).toInt ∧ (rd M 135 7).toInt ≤ 600 := h.1.std 135 7
  have no : ¬ (0 ≤ x1.toInt ∧ x1.toInt ≤ (rd M 135 7).toInt) → Sf (mX7_load_b20 135 x1 (1 : Int32) M) (fun q => MI q.1 ∧ ((rd q.1 135 7 = rd M 135 7 ∧ ¬ (0 ≤ x1.toInt ∧ x1.toInt ≤ (rd M 135 7).toInt)) ∨ ((rd q.1 135 7).toInt = 0 ∧ 0 ≤ x1.toInt ∧ x1.toInt ≤ (rd M 135 7).toInt))) := by
    intro hn
    unfold mX7_load_b20
    refine Sf.b (fun M5 e5 => Sf.i (fun c => ?_) (fun _ => Sf.ok ?_))
    · rw [e5, rd_we] at c
      exact absurd c (by decide)
    · subst e5
      exact ⟨h.th.1, Or.inl ⟨h.th.2, hn⟩⟩
  have t1 : (x1.toInt64).toInt = x1.toInt := Int32.toInt_toInt64 _
  have t2 : ((rd M 135 7).toInt64).toInt = (rd M 135 7).toInt := Int32.toInt_toInt64 _
  have t0 : (0 : Int64).toInt = 0 := by decide
  have yes : 0 ≤ x1.toInt ∧ x1.toInt ≤ (rd M 135 7).toInt → Sf (mX7_load_b20 135 x1 (0 : Int32) M) (fun q => MI q.1 ∧ ((rd q.1 135 7 = rd M 135 7 ∧ ¬ (0 ≤ x1.toInt ∧ x1.toInt ≤ (rd M 135 7).toInt)) ∨ ((rd q.1 135 7).toInt = 0 ∧ 0 ≤ x1.toInt ∧ x1.toInt ≤ (rd M 135 7).toInt))) := by
    intro hy
    unfold mX7_load_b20
    refine Sf.b (fun M5 e5 => Sf.i (fun _ => ?_) (fun c => ?_))
    · have h5 : MI M5 := by rw [e5]; exact h.th.1
      refine Sf.b (fun M8 e8 => Sf.b (fun M10 e10 => Sf.b (fun M12 e12 => Sf.b (fun M14 e14 => Sf.b (fun M16 e16 => ?_)))))
      have h8 : MI M8 := by rw [e8]; exact h5.set (by decide) (h5.1.put (b := (0, 600)) rfl ⟨hy.1, by show _ ≤ (600 : Int); omega⟩)
      have h10 : MI M10 := by rw [e10]; exact h8.set (by decide) (h8.1.put (b := (0, 600)) rfl (by decide))
      have h12 : MI M12 := by rw [e12]; exact h10.set (by decide) (h10.1.put (b := (0, 600)) rfl (by decide))
      have h14 : MI M14 := by rw [e14]; exact h12.set (by decide) (h12.1.put (b := bT) rfl (i_rng _))
      have h16 : MI M16 := by rw [e16]; exact h14.set (by decide) (h14.1.put (b := bT) rfl (i_rng _))
      have z16 : rd M16 135 7 = 0 := by rw [e16, rd_wj (by decide), e14, rd_wj (by decide), e12, rd_wj (by decide), e10, rd_we]
      refine Sf.m (sX7_reset h16.1) (fun M20 _ p20 => ?_)
      have h20 : PI M20 := p20.1
      have m20 := h16.kp h20.1 p20.2
      refine Sf.m (sX7_advance h20.1) (fun M23 r22 p23 => ?_)
      have h23 := h20.ka p23.1.1 p23.1.2.1
      have m23 := m20.1.kp h23.1 (KA.kp p23.1.2.1)
      have b23 : 0 ≤ nx M23 ∧ nx M23 ≤ 600 := nx_b h23.1
      refine Sf.mono (load_l 5000 1 M23 (by decide) h23 m23.1 (by rw [show ((1 : Int32)).toInt = 1 from rfl]; omega)) (fun q hq => ⟨hq.1, Or.inr ⟨?_, hy⟩⟩)
      rw [hq.2, m23.2, m20.2, z16]; rfl
    · rw [e5, rd_we] at c
      exact absurd (by decide) c
  by_cases c1 : x1.toInt < 0
  · refine Sf.c (Q := fun r => r = 0) ⟨0, ?_, rfl⟩ (fun r er => ?_)
    · unfold ite2
      rw [if_pos (b_cmp.1.mpr (by omega))]
    · subst er
      exact Sf.i (fun _ => no (by omega)) (fun q => absurd rfl q)
  · by_cases c2 : (rd M 135 7).toInt < x1.toInt
    · refine Sf.c (Q := fun r => r = 0) ⟨0, ?_, rfl⟩ (fun r er => ?_)
      · unfold ite2
        rw [if_neg (fun q => by have := b_cmp.1.mp q; omega), if_pos (b_cmp.2.mpr (by omega))]
      · subst er
        exact Sf.i (fun _ => no (by omega)) (fun q => absurd rfl q)
    · refine Sf.c (Q := fun r => r = 1) ⟨1, ?_, rfl⟩ (fun r er => ?_)
      · unfold ite2
        rw [if_neg (fun q => by have := b_cmp.1.mp q; omega), if_neg (fun q => by have := b_cmp.2.mp q; omega)]
      · subst er
        exact Sf.i (fun q => absurd q (by decide)) (fun _ => yes (by omega))
theorem ref_append_l : ∀ (fuel : Nat) (x2 : Int32) (M : Mem) (k : Nat), MI M → x2.toInt = 8 * (k : Int) - 8 ∧ k ≤ 4 → (rd M 135 7).toInt + k ≤ 600 → k < fuel → Sf (mX7_append_l3 135 fuel x1 x2 M) (fun q => MI q.1 ∧ (rd q.1 135 7).toInt = (rd M 135 7).toInt + k) := by
  intro fuel
  induction fuel with
  | zero => intro x2 M k _ _ _ h; exfalso; omega
  | succ fuel IH =>
    intro x2 M k h h2 hb hf
    show Sf (mX7_append_b3 135 (mX7_append_l3 135 fuel) x1 x2 M) _
    unfold mX7_append_b3
    have b : (0 : Int) ≤ (rd M 135 7).toInt ∧ (rd M 135 7).toInt ≤ 600 := h.1.std 135 7
    refine Sf.i (fun c => Sf.ok ⟨h, ?_⟩) (fun c => ?_)
    · have c := i_lt.mp c
      rw [show ((0 : Int32)).toInt = 0 from rfl] at c
      show (rd M 135 7).toInt = _
      omega
    · have c := i_nlt c
      rw [show ((0 : Int32)).toInt = 0 from rfl] at c
      refine Sf.k (ok_in (by omega) (by omega)) (Sf.b (fun M4 e4 => Sf.b (fun M5 e5 => Sf.b (fun y ey => ?_))))
      have o4 : OKm gS M4 := by rw [e4]; exact h.1.put (b := bT) rfl (i_rng _)
      have r4 : ∀ k j, k ≠ 140 → rd M4 k j = rd M k j := fun k j hk => by rw [e4]; exact rd_wk hk
      have n1 : ((1 : Int32)).toInt = 1 := rfl
      have t5 : (rd M4 135 7 + 1).toInt = (rd M 135 7).toInt + 1 := by rw [r4 135 7 (by decide), i_add (by omega) (by omega), n1]
      have h4 : MI M4 := by
        obtain ⟨_, ⟨n, m, hR⟩, hH⟩ := h
        refine ⟨o4, ⟨n, m, hR.of (fun j => r4 136 j (by decide))⟩, fun e he => ?_⟩
        rw [r4 135 4 (by decide)] at he
        obtain ⟨n, m, hr⟩ := hH e he
        exact ⟨n, m, hr.of (fun j => r4 139 _ (by decide))⟩
      have h5 : MI M5 := by rw [e5]; exact h4.set (by decide) (h4.1.put (b := (0, 600)) rfl (by rw [t5]; exact ⟨by show (0 : Int) ≤ _; omega, by show _ ≤ (600 : Int); omega⟩))
      have c5 : (rd M5 135 7).toInt = (rd M 135 7).toInt + 1 := by rw [e5, rd_we, t5]
      have ty : y.toInt = x2.toInt - 8 := by rw [ey, i_add (by rw [show ((-8 : Int32)).toInt = -8 from rfl]; omega) (by rw [show ((-8 : Int32)).toInt = -8 from rfl]; omega)]; rfl
      refine Sf.mono (IH y M5 (k - 1) h5 ⟨by omega, by omega⟩ (by omega) (by omega)) (fun q p => ⟨p.1, ?_⟩)
      have := p.2
      omega
theorem ref_append (h : MI M) (hb : (rd M 135 7).toInt + 4 ≤ 600) : Sf (mX7_append 135 x1 M) (fun q => MI q.1 ∧ (rd q.1 135 7).toInt = (rd M 135 7).toInt + 4) := by
  unfold mX7_append
  exact ref_append_l 5000 24 M 4 h (by decide) hb (by decide)
theorem sX7_feed (h : MI M) : Sf (mX7_feed 135 x1 x2 x3 x4 x5 M) (fun q => MI q.1 ∧ ((600 < (rd M 135 7).toInt + 20 ∧ q.2.toInt = -2 ∧ (rd q.1 135 7).toInt = (rd M 135 7).toInt) ∨ ((rd M 135 7).toInt + 20 ≤ 600 ∧ q.2.toInt = (rd M 135 7).toInt + 20 ∧ (rd q.1 135 7).toInt = (rd M 135 7).toInt + 20))) := by
  unfold mX7_feed
  refine Sf.b (fun M1 e1 => ?_)
  have h1 : MI M1 := by rw [e1]; exact h.th.1
  have k1 : rd M1 135 7 = rd M 135 7 := by rw [e1]; exact h.th.2
  rw [← k1]
  have b : (0 : Int) ≤ (rd M1 135 7).toInt ∧ (rd M1 135 7).toInt ≤ 600 := h1.1.std 135 7
  have n20 : ((20 : Int32)).toInt = 20 := rfl
  have n600 : ((600 : Int32)).toInt = 600 := rfl
  have e := i_add (a := rd M1 135 7) (b := 20) (by omega) (by omega)
  refine Sf.i (fun c => ?_) (fun c => Sf.ok ⟨h1, Or.inl ⟨?_, rfl, rfl⟩⟩)
  · have c := i_le.mp c
    refine Sf.m (ref_append h1 (by omega)) (fun M4 _ p4 => ?_)
    have c4 : (rd M4 135 7).toInt = (rd M1 135 7).toInt + 4 := p4.2
    refine Sf.m (ref_append p4.1 (by show (rd M4 135 7).toInt + 4 ≤ 600; omega)) (fun M7 _ p7 => ?_)
    have c7 : (rd M7 135 7).toInt = (rd M4 135 7).toInt + 4 := p7.2
    refine Sf.m (ref_append p7.1 (by show (rd M7 135 7).toInt + 4 ≤ 600; omega)) (fun M10 _ p10 => ?_)
    have c10 : (rd M10 135 7).toInt = (rd M7 135 7).toInt + 4 := p10.2
    refine Sf.m (ref_append p10.1 (by show (rd M10 135 7).toInt + 4 ≤ 600; omega)) (fun M13 _ p13 => ?_)
    have c13 : (rd M13 135 7).toInt = (rd M10 135 7).toInt + 4 := p13.2
    refine Sf.m (ref_append p13.1 (by show (rd M13 135 7).toInt + 4 ≤ 600; omega)) (fun M16 _ p16 => ?_)
    have c16 : (rd M16 135 7).toInt = (rd M13 135 7).toInt + 4 := p16.2
    exact Sf.ok ⟨p16.1, Or.inr ⟨by omega, by show (rd M16 135 7).toInt = _; omega, by show (rd M16 135 7).toInt = _; omega⟩⟩
  · have c := i_nle c
    omega
end LK
