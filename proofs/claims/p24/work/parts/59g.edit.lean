/-! the reference's edits -/
def Out (M M' : Mem) : Prop := ∀ k j, k ≠ 139 → ¬ (k = 135 ∧ j = 4) → rd M' k j = rd M k j
section EG
variable {M M' M0 : Mem} {n m e : Nat} {v x1 x2 x3 : Int32}
theorem Row.cong {f f' : Nat → Int32} (h : Row n m f) (q : ∀ j, j < 86 → f' j = f j) : Row n m f' := by
  obtain ⟨h0, hn, h52, hm, h36, k, h53, hk, hl⟩ := h
  refine ⟨(q 0 (by omega)).trans h0, hn, (q 52 (by omega)).trans h52, hm, by rw [q 36 (by omega)]; exact h36, k, (q 53 (by omega)).trans h53, hk, fun j hj => ?_⟩
  obtain ⟨b, hb, e1, e2⟩ := hl j hj
  exact ⟨b, hb, (q _ (by omega)).trans e1, e2⟩
theorem o86 {i : Nat} (he : e ≤ 9) (hi : i ≤ 86) : ((86 : Int32) * Int32.ofNat e + Int32.ofNat i).toInt = 86 * (e : Int) + i := by
  have te : (Int32.ofNat e).toInt = (e : Int) := t_of (by omega)
  have ti : (Int32.ofNat i).toInt = (i : Int) := t_of (by omega)
  have a := i_mulc (a := (86 : Int32)) (b := Int32.ofNat e) (c := 86) rfl (by omega) (by omega)
  rw [i_add (by omega) (by omega), a]; omega
theorem o86c {i : Nat} (he : e ≤ 9) (hi : i ≤ 86) : ((86 : Int32) * Int32.ofNat e + Int32.ofNat i).toNatClampNeg = 86 * e + i := by rw [i_clamp, o86 he hi]; omega
theorem put139 {j : Nat} (h : OKm gS M) (hv : (bxS 0 (j % 86)).1 ≤ v.toInt ∧ v.toInt ≤ (bxS 0 (j % 86)).2) : OKm gS (wr M 139 j v) := h.put rfl hv
theorem put136 {j : Nat} (h : OKm gS M) (hv : (bxS 1 j).1 ≤ v.toInt ∧ v.toInt ≤ (bxS 1 j).2) : OKm gS (wr M 136 j v) := h.put rfl hv
theorem putE (h : OKm gS M) (hv : 0 ≤ v.toInt ∧ v.toInt ≤ 10) : OKm gS (wr M 135 4 v) := h.put (b := (0, 10)) rfl hv
theorem bx10 : ∀ i, i < 86 → (bxS 0 i).1 ≤ (bxS 1 i).1 ∧ (bxS 1 i).2 ≤ (bxS 0 i).2 := by decide
theorem rem_copy (he : e < 10) : ∀ (fuel i : Nat) (M : Mem), i ≤ 86 → OKm gS M → rd M 135 4 = Int32.ofNat e → (∀ k j, k ≠ 139 → rd M k j = rd M0 k j) → (∀ p, p < i → rd M 139 (86 * e + p) = rd M0 136 p) → (∀ p, p < 86 * e → rd M 139 p = rd M0 139 p) → 86 - i < fuel → Sf (mX7_remember_l52 135 fuel (Int32.ofNat i) M) (fun q => OKm gS q.1 ∧ rd q.1 135 4 = Int32.ofNat (e + 1) ∧ Out M0 q.1 ∧ (∀ p, p < 86 → rd q.1 139 (86 * e + p) = rd M0 136 p) ∧ ∀ p, p < 86 * e → rd q.1 139 p = rd M0 139 p) := by
  intro fuel
  induction fuel with
  | zero => intro i M _ _ _ _ _ _ h; exfalso; omega
  | succ fuel IH =>
    intro i M hi h h4 hk hp hq hf
    show Sf (mX7_remember_b52 135 (mX7_remember_l52 135 fuel) (Int32.ofNat i) M) _
    unfold mX7_remember_b52
    rw [h4]
    have ti : (Int32.ofNat i).toInt = (i : Int) := t_of (by omega)
    refine Sf.i (fun c => Sf.b (fun M3 e3 => Sf.ok ?_)) (fun c => ?_)
    · have c := i_le.mp c
      rw [ti, show ((86 : Int32)).toInt = 86 from rfl] at c
      have e1 : Int32.ofNat e + (1 : Int32) = Int32.ofNat (e + 1) := (Int32.ofNat_add e 1).symm
      rw [e1] at e3
      refine ⟨?_, ?_, fun k j k1 k2 => ?_, fun p hp9 => ?_, fun p hp9 => ?_⟩
      · show OKm gS M3
        rw [e3]; exact putE h (by rw [t_of (by omega)]; omega)
      · show rd M3 135 4 = _
        rw [e3]; exact rd_we
      · show rd M3 k j = _
        rw [e3, ← hk k j k1]
        by_cases k3 : k = 135
        · subst k3; exact rd_wj (by omega)
        · exact rd_wk k3
      · show rd M3 139 _ = _
        rw [e3, rd_wk (by decide)]; exact hp p (by omega)
      · show rd M3 139 _ = _
        rw [e3, rd_wk (by decide)]; exact hq p hp9
    · have c := i_nle c
      rw [ti, show ((86 : Int32)).toInt = 86 from rfl] at c
      refine Sf.k (ok_in (by omega) (by omega)) (Sf.k (ok_in (by rw [o86 (by omega) (by omega)]; omega) (by rw [o86 (by omega) (by omega)]; omega)) (Sf.b (fun M8 e8 => Sf.b (fun y ey => ?_))))
      rw [o86c (by omega) (by omega), c_of (by omega)] at e8
      have e8 : M8 = wr M 139 (86 * e + i) (rd M 136 i) := e8
      have ey : y = Int32.ofNat (i + 1) := ey.trans (Int32.ofNat_add i 1).symm
      rw [ey]
      have b1 : (bxS 1 i).1 ≤ (rd M 136 i).toInt ∧ (rd M 136 i).toInt ≤ (bxS 1 i).2 := h.std 136 i
      have b2 := bx10 i (by omega)
      refine IH (i + 1) M8 (by omega) (by rw [e8]; exact put139 h (by rw [show (86 * e + i) % 86 = i by omega]; omega)) (by rw [e8, rd_wk (by decide)]; exact h4) (fun k j k1 => by rw [e8, rd_wk k1]; exact hk k j k1) (fun p hp9 => ?_) (fun p hp9 => ?_) (by omega)
      · by_cases e9 : p = i
        · subst e9; rw [e8, rd_we]; exact hk 136 p (by decide)
        · rw [e8, rd_wj (by omega)]; exact hp p (by omega)
      · rw [e8, rd_wj (by omega)]; exact hq p hp9
theorem HR.row (h : HR M) (h4 : rd M 135 4 = Int32.ofNat e) (he : e < 1000) {e' : Nat} (h' : e' < e) : ∃ n m, Row n m (fun j => rd M 139 (86 * e' + j)) := h e' (by rw [h4, t_of (by omega)]; omega)
theorem rem_b50 (h : MI M) (h4 : rd M 135 4 = Int32.ofNat e) (he : e < 10) : Sf (mX7_remember_b50 135 M) (fun q => MI q.1 ∧ Out M q.1 ∧ 1 ≤ (rd q.1 135 4).toInt) := by
  unfold mX7_remember_b50
  refine Sf.mono (rem_copy (M0 := M) he 5000 0 M (by omega) h.1 h4 (fun _ _ _ => rfl) (fun p hp => absurd hp (by omega)) (fun _ _ => rfl) (by omega)) (fun q hq => ?_)
  obtain ⟨h1, h2, h3, h5, h6⟩ := hq
  obtain ⟨_, ⟨n, m, hR⟩, hH⟩ := h
  have t4 : (rd q.1 135 4).toInt = (e : Int) + 1 := by rw [h2, t_of (by omega)]; omega
  refine ⟨⟨h1, ⟨n, m, hR.of (fun j => h3 136 j (by decide) (by omega))⟩, fun e' he' => ?_⟩, h3, by omega⟩
  by_cases e9 : e' = e
  · subst e9
    exact ⟨n, m, hR.cong (fun j hj => h5 j hj)⟩
  · obtain ⟨n, m, hr⟩ := hH.row h4 (by omega) (e' := e') (by omega)
    exact ⟨n, m, hr.cong (fun j hj => h6 _ (by omega))⟩
theorem rem_shift (h : MI M0) : ∀ (fuel i : Nat) (M : Mem), 86 ≤ i → i ≤ 860 → OKm gS M → rd M0 135 4 = Int32.ofNat 10 → (∀ k j, k ≠ 139 → rd M k j = rd M0 k j) → (∀ p, p + 86 < i → rd M 139 p = rd M0 139 (p + 86)) → (∀ p, i ≤ p + 86 → rd M 139 p = rd M0 139 p) → 860 - i < fuel → Sf (mX7_remember_l12 135 fuel (Int32.ofNat i) M) (fun q => MI q.1 ∧ Out M0 q.1 ∧ 1 ≤ (rd q.1 135 4).toInt) := by
  intro fuel
  induction fuel with
  | zero => intro i M _ _ _ _ _ _ _ h; exfalso; omega
  | succ fuel IH =>
    intro i M hi hi2 hM h4 hk hp hq hf
    show Sf (mX7_remember_b12 135 (mX7_remember_l12 135 fuel) (Int32.ofNat i) M) _
    unfold mX7_remember_b12
    have ti : (Int32.ofNat i).toInt = (i : Int) := t_of (by omega)
    refine Sf.i (fun c => Sf.b (fun M11 e11 => ?_)) (fun c => ?_)
    · have c := i_le.mp c
      rw [ti, show ((860 : Int32)).toInt = 860 from rfl] at c
      rw [hk 135 4 (by decide), h4, show Int32.ofNat 10 - (1 : Int32) = Int32.ofNat 9 from by decide] at e11
      have e4 : rd M11 135 4 = Int32.ofNat 9 := by rw [e11]; exact rd_we
      have r136 : ∀ j, rd M11 136 j = rd M0 136 j := fun j => by rw [e11, rd_wk (by decide)]; exact hk 136 j (by decide)
      have o11 : Out M0 M11 := fun k j k1 k2 => by
        rw [e11, ← hk k j k1]
        by_cases k3 : k = 135
        · subst k3; exact rd_wj (by omega)
        · exact rd_wk k3
      obtain ⟨_, ⟨n, m, hR⟩, hH⟩ := h
      have h11 : MI M11 := by
        refine ⟨by rw [e11]; exact putE hM (by decide), ⟨n, m, hR.of r136⟩, fun e' he' => ?_⟩
        rw [e4, show (Int32.ofNat 9).toInt = 9 from rfl] at he'
        obtain ⟨n, m, hr⟩ := hH.row h4 (by omega) (e' := e' + 1) (by omega)
        refine ⟨n, m, hr.cong (fun j hj => ?_)⟩
        show rd M11 139 (86 * e' + j) = rd M0 139 (86 * (e' + 1) + j)
        rw [e11, rd_wk (by decide), hp _ (by omega)]
        congr 1; omega
      refine Sf.mono (rem_b50 h11 e4 (by omega)) (fun q p => ⟨p.1, fun k j k1 k2 => (p.2.1 k j k1 k2).trans (o11 k j k1 k2), p.2.2⟩)
    · have c := i_nle c
      rw [ti, show ((860 : Int32)).toInt = 860 from rfl] at c
      have n86 : ((86 : Int32)).toInt = 86 := rfl
      have es := i_sub (a := Int32.ofNat i) (b := 86) (by omega) (by omega)
      refine Sf.k (ok_in (by omega) (by omega)) (Sf.k (ok_in (by omega) (by omega)) (Sf.b (fun M16 e16 => Sf.b (fun y ey => ?_))))
      rw [c_of (by omega), i_clamp, show (Int32.ofNat i - 86).toInt.toNat = i - 86 by omega] at e16
      have e16 : M16 = wr M 139 (i - 86) (rd M 139 i) := e16
      have ey : y = Int32.ofNat (i + 1) := ey.trans (Int32.ofNat_add i 1).symm
      rw [ey]
      have b1 : (bxS 0 (i % 86)).1 ≤ (rd M 139 i).toInt ∧ (rd M 139 i).toInt ≤ (bxS 0 (i % 86)).2 := hM.std 139 i
      refine IH (i + 1) M16 (by omega) (by omega) (by rw [e16]; exact put139 hM (by rw [show (i - 86) % 86 = i % 86 by omega]; exact b1)) h4 (fun k j k1 => by rw [e16, rd_wk k1]; exact hk k j k1) (fun p hp9 => ?_) (fun p hp9 => ?_) (by omega)
      · by_cases e9 : p = i - 86
        · subst e9
          rw [e16, rd_we, hq i (by omega)]
          congr 1; omega
        · rw [e16, rd_wj e9]; exact hp p (by omega)
      · rw [e16, rd_wj (by omega)]; exact hq p (by omega)
theorem sX7_remember (h : MI M) : Sf (mX7_remember 135 M) (fun q => MI q.1 ∧ Out M q.1 ∧ 1 ≤ (rd q.1 135 4).toInt) := by
  unfold mX7_remember
  have b : (0 : Int) ≤ (rd M 135 4).toInt ∧ (rd M 135 4).toInt ≤ 10 := h.1.std 135 4
  refine Sf.i (fun c => ?_) (fun c => ?_)
  · exact rem_shift h 5000 86 M (by omega) (by omega) h.1 (c.trans (by decide)) (fun _ _ _ => rfl) (fun p hp => absurd hp (by omega)) (fun _ _ => rfl) (by omega)
  · have c := i_ne c
    rw [show ((10 : Int32)).toInt = 10 from rfl] at c
    exact rem_b50 h (o_of b.1) (by omega)
theorem Row.upd {f f' : Nat → Int32} (h : Row n m f) (q : ∀ j, j = 0 ∨ j = 52 ∨ j = 53 ∨ 54 ≤ j → f' j = f j) (h36 : 1 ≤ (f' 36).toInt) : Row n m f' := by
  obtain ⟨h0, hn, h52, hm, _, k, h53, hk, hl⟩ := h
  refine ⟨(q 0 (by omega)).trans h0, hn, (q 52 (by omega)).trans h52, hm, h36, k, (q 53 (by omega)).trans h53, hk, fun j hj => ?_⟩
  obtain ⟨b, hb, e1, e2⟩ := hl j hj
  exact ⟨b, hb, (q _ (by omega)).trans e1, e2⟩
/-- a slot that no row's shape rests on -/
theorem MI.put {j : Nat} (h : MI M) (hj : j < 54 ∧ j ≠ 0 ∧ j ≠ 52 ∧ j ≠ 53) (hv : (bxS 1 j).1 ≤ v.toInt ∧ v.toInt ≤ (bxS 1 j).2) : MI (wr M 136 j v) := by
  have h1 := put136 h.1 hv
  obtain ⟨_, ⟨n, m, hR⟩, hH⟩ := h
  refine ⟨h1, ⟨n, m, hR.upd (fun i hi => rd_wj (by omega)) ?_⟩, fun e' he' => ?_⟩
  · have b : (1 : Int) ≤ (rd (wr M 136 j v) 136 36).toInt ∧ (rd (wr M 136 j v) 136 36).toInt ≤ 60 := h1.std 136 36
    exact b.1
  · rw [rd_wk (by decide)] at he'
    obtain ⟨n, m, hr⟩ := hH e' he'
    exact ⟨n, m, hr.of (fun j => rd_wk (by decide))⟩
theorem sX7_set (h : MI M) (h1 : 0 ≤ x1.toInt ∧ x1.toInt < 54) (hj : x1.toInt ≠ 0 ∧ x1.toInt ≠ 52 ∧ x1.toInt ≠ 53) (hv : (bxS 1 x1.toInt.toNat).1 ≤ x2.toInt ∧ x2.toInt ≤ (bxS 1 x1.toInt.toNat).2) : Sf (mX7_set 135 x1 x2 M) (MP M) := by
  unfold mX7_set
  refine Sf.m (sX7_remember h) (fun M3 _ p => Sf.k (ok_in (by omega) (by omega)) (Sf.b (fun x3 _ => Sf.k (ok_in (by omega) (by omega)) (Sf.b (fun M8 e8 => Sf.ok ?_)))))
  have e8 : M8 = wr M3 136 x1.toInt.toNat x2 := e8
  have o3 : Out M M3 := p.2.1
  refine ⟨by show MI M8; rw [e8]; exact MI.put p.1 ⟨by omega, by omega, by omega, by omega⟩ hv, ?_⟩
  show rd M8 135 7 = _
  rw [e8, rd_wk (by decide)]
  exact o3 135 7 (by decide) (by omega)
theorem MP.trans {ρ σ : Type} {q : Mem × ρ} {r : σ} (h : MP M q) (h' : MP q.1 (M', r)) : MP M (M', r) := ⟨h'.1, h'.2.trans h.2⟩
theorem MP.self {ρ : Type} {r : ρ} (h : MI M) : MP M (M, r) := ⟨h, rfl⟩
theorem mp_good (h : MI M) (h1 : 0 ≤ x1.toInt ∧ x1.toInt ≤ 1) : Sf (mX7_good 135 x1 M) (fun q => MP M q ∧ zor q.2 (¬ x1.toInt = 0)) :=
  Sf.mono (fr (R := fun q => zor q.2 (¬ x1.toInt = 0)) h.1 (fun g' h' => sX7_good h' h1)) (fun q hq => ⟨MP.of2 h (OKm.w2 hq.1) hq.2.1.k2, hq.2.2⟩)
theorem mp_good_ (h : MI M) : Sf (mX7_good_ 135 x1 x2 M) (fun q => MP M q ∧ zor q.2 (¬ x1.toInt = 0 ∧ ¬ x2.toInt = 0)) :=
  Sf.mono (fr (R := fun q => zor q.2 (¬ x1.toInt = 0 ∧ ¬ x2.toInt = 0)) h.1 (fun g' h' => sX7_good_ h')) (fun q hq => ⟨MP.of2 h (OKm.w2 hq.1) hq.2.1.k2, hq.2.2⟩)
theorem mp_good__ (h : MI M) : Sf (mX7_good__ 135 x1 x2 x3 M) (fun q => MP M q ∧ Keep M q.1 ∧ zor q.2 (¬ x1.toInt = 0 ∧ ¬ x2.toInt = 0 ∧ ¬ x3.toInt = 0)) :=
  Sf.mono (fr (R := fun q => zor q.2 (¬ x1.toInt = 0 ∧ ¬ x2.toInt = 0 ∧ ¬ x3.toInt = 0)) h.1 (fun g' h' => sX7_good__ h')) (fun q hq => ⟨MP.of2 h (OKm.w2 hq.1) hq.2.1.k2, hq.2.1, hq.2.2⟩)
theorem bx_leg : ∀ j, j < 9 → bxS 1 (2 + j) = (0, 9999) := by decide
theorem bx_up : ∀ j, j < 8 → bxS 1 (11 + j) = (0, 1) := by decide
theorem bx_tool : ∀ j, j < 5 → bxS 1 (39 + 2 * j) = (0, 9999) ∧ bxS 1 (39 + 2 * j + 1) = (0, 9999) := by decide
theorem sX7_setLeg (h : MI M) : Sf (mX7_setLeg 135 x1 x2 M) (MP M) := by
  unfold mX7_setLeg
  have b30 : ∀ r2 r5 y3 : Int32, zor r2 (0 ≤ x1.toInt ∧ x1.toInt ≤ 8) → zor r5 (1 ≤ x2.toInt ∧ x2.toInt ≤ 9999) → Sf (mX7_setLeg_b30 135 x1 x2 r2 r5 y3 M) (MP M) := by
    intro r2 r5 y3 p2 p5
    unfold mX7_setLeg_b30
    refine Sf.m (mp_good__ h) (fun M11 r10 p => Sf.i (fun _ => Sf.ok p.1) (fun c => ?_))
    have q := p.2.2.2.resolve_left (i_ne c)
    have h1 := p2.2.resolve_left q.1
    have h2 := p5.2.resolve_left q.2.1
    have n2 : ((2 : Int32)).toInt = 2 := rfl
    have e := i_add (a := (2 : Int32)) (b := x1) (by omega) (by omega)
    refine Sf.m (sX7_set (x1 := (2 : Int32) + x1) (x2 := x2) p.1.1 (by omega) (by omega) ?_) (fun M15 r14 p15 => Sf.ok (MP.trans p.1 p15))
    rw [show ((2 : Int32) + x1).toInt.toNat = 2 + x1.toInt.toNat by omega, bx_leg _ (by omega)]
    exact ⟨by show (0 : Int) ≤ _; omega, h2.2⟩
  refine Sf.c (sX7_isLeg h.1) (fun r2 p2 => Sf.c (sX7_between (Int32.toInt_toInt64 _) (b := 1) (by decide) (c := 9999) (by decide)) (fun r5 p5 => Sf.k (by decide) (Sf.i (fun _ => b30 _ _ _ ⟨p2.1, p2.2.imp id (fun q => ⟨q.1, q.2.2⟩)⟩ p5) (fun _ => b30 _ _ _ ⟨p2.1, p2.2.imp id (fun q => ⟨q.1, q.2.2⟩)⟩ p5))))
theorem sX7_setDirection (h : MI M) : Sf (mX7_setDirection 135 x1 x2 M) (MP M) := by
  unfold mX7_setDirection
  have b21 : ∀ r2 y : Int32, zor r2 (0 ≤ x1.toInt ∧ x1.toInt ≤ 7) → Sf (mX7_setDirection_b21 135 x1 x2 r2 y M) (MP M) := by
    intro r2 y p2
    unfold mX7_setDirection_b21
    refine Sf.m (mp_good_ h) (fun M8 r7 p => Sf.i (fun _ => Sf.ok p.1) (fun c => ?_))
    have q := p.2.2.resolve_left (i_ne c)
    have h1 := p2.2.resolve_left q.1
    have n11 : ((11 : Int32)).toInt = 11 := rfl
    have e := i_add (a := (11 : Int32)) (b := x1) (by omega) (by omega)
    have b41 : ∀ y2 : Int32, 0 ≤ y2.toInt ∧ y2.toInt ≤ 1 → Sf (mX7_setDirection_b41 135 ((11 : Int32) + x1) y2 M8) (MP M) := by
      intro y2 hy
      unfold mX7_setDirection_b41
      refine Sf.m (sX7_set (x1 := (11 : Int32) + x1) (x2 := y2) p.1.1 (by omega) (by omega) ?_) (fun M13 r12 p13 => Sf.i (fun _ => Sf.ok (MP.trans p.1 ⟨p13.1, p13.2⟩)) (fun _ => Sf.ok (MP.trans p.1 ⟨p13.1, p13.2⟩)))
      rw [show ((11 : Int32) + x1).toInt.toNat = 11 + x1.toInt.toNat by omega, bx_up _ (by omega)]
      exact hy
    exact Sf.i (fun _ => b41 0 (by decide)) (fun _ => b41 1 (by decide))
  refine Sf.c (sX7_isBend h.1) (fun r2 p2 => Sf.k (by decide) (Sf.i (fun _ => b21 _ _ ⟨p2.1, p2.2.imp id (fun q => ⟨q.1, q.2.2⟩)⟩) (fun _ => b21 _ _ ⟨p2.1, p2.2.imp id (fun q => ⟨q.1, q.2.2⟩)⟩)))
theorem sX7_areTold : Sf (mX7_areTold x1 x2 x3 M) (fun r => zor r ((0 ≤ x1.toInt ∧ x1.toInt ≤ 4) ∧ (0 ≤ x2.toInt ∧ x2.toInt ≤ 9999) ∧ (0 ≤ x3.toInt ∧ x3.toInt ≤ 9999))) := by
  have z0 : ∀ P : Prop, zor (0 : Int32) P := fun _ => ⟨by decide, Or.inl rfl⟩
  have b48 : (0 ≤ x1.toInt ∧ x1.toInt ≤ 4) ∧ (0 ≤ x2.toInt ∧ x2.toInt ≤ 9999) → Sf (mX7_areTold_b48 M x3) (fun r => zor r ((0 ≤ x1.toInt ∧ x1.toInt ≤ 4) ∧ (0 ≤ x2.toInt ∧ x2.toInt ≤ 9999) ∧ (0 ≤ x3.toInt ∧ x3.toInt ≤ 9999))) := by
    intro h
    unfold mX7_areTold_b48
    exact Sf.c (sX7_between (Int32.toInt_toInt64 _) (b := 0) (by decide) (c := 9999) (by decide)) (fun r p => Sf.k (zor_isB p) (Sf.ok ⟨p.1, p.2.imp id (fun q => ⟨h.1, h.2, q⟩)⟩))
  unfold mX7_areTold
  refine Sf.c (sX7_between (Int32.toInt_toInt64 _) (b := 0) (by decide) (c := 9999) (by decide)) (fun r2 p2 => Sf.i (fun _ => Sf.ok (z0 _)) (fun c2 => ?_))
  have h2 := p2.2.resolve_left (i_ne c2)
  refine Sf.i (fun e => b48 ⟨by rw [e]; decide, h2⟩) (fun _ => Sf.i (fun e => b48 ⟨by rw [e]; decide, h2⟩) (fun _ => Sf.i (fun e => b48 ⟨by rw [e]; decide, h2⟩) (fun _ => Sf.i (fun e => ?_) (fun _ => Sf.i (fun e => ?_) (fun _ => Sf.ok (z0 _))))))
  · refine Sf.c (sX7_between (Int32.toInt_toInt64 _) (Int32.toInt_toInt64 _) (c := 9999) (by decide)) (fun r p => Sf.k (zor_isB p) (Sf.ok ⟨p.1, p.2.imp id (fun q => ⟨by rw [e]; decide, h2, ?_⟩)⟩))
    omega
  · refine Sf.i (fun e0 => Sf.ok ⟨by decide, Or.inr ⟨by rw [e]; decide, h2, by rw [e0]; decide⟩⟩) (fun _ => Sf.ok (z0 _))
theorem sX7_setTool (h : MI M) : Sf (mX7_setTool 135 x1 x2 x3 M) (MP M) := by
  unfold mX7_setTool
  refine Sf.c sX7_areTold (fun r2 p2 => Sf.m (mp_good h p2.1) (fun M6 r5 p => Sf.i (fun _ => Sf.ok p.1) (fun c => ?_)))
  obtain ⟨h1, h2, h3⟩ := p2.2.resolve_left (p.2.2.resolve_left (i_ne c))
  have n39 : ((39 : Int32)).toInt = 39 := rfl
  have n1 : ((1 : Int32)).toInt = 1 := rfl
  have e1 := i_mulc (a := (2 : Int32)) (b := x1) (c := 2) rfl (by omega) (by omega)
  have e2 := i_add (a := (39 : Int32)) (b := (2 : Int32) * x1) (by omega) (by omega)
  have e3 := i_add (a := (39 : Int32) + (2 : Int32) * x1) (b := (1 : Int32)) (by omega) (by omega)
  have bt := bx_tool x1.toInt.toNat (by omega)
  refine Sf.m (sX7_set (x1 := (39 : Int32) + (2 : Int32) * x1) (x2 := x2) p.1.1 (by omega) (by omega) ?_) (fun M10 r9 p10 => Sf.k (ok_in (by omega) (by omega)) (Sf.b (fun M13 e13 => Sf.ok ?_)))
  · rw [show ((39 : Int32) + (2 : Int32) * x1).toInt.toNat = 39 + 2 * x1.toInt.toNat by omega, bt.1]
    exact h2
  · have e13 : M13 = wr M10 136 ((39 : Int32) + (2 : Int32) * x1 + (1 : Int32)).toInt.toNat x3 := e13
    rw [show ((39 : Int32) + (2 : Int32) * x1 + (1 : Int32)).toInt.toNat = 39 + 2 * x1.toInt.toNat + 1 by omega] at e13
    refine MP.trans p.1 ⟨by show MI M13; rw [e13]; exact MI.put p10.1 ⟨by omega, by omega, by omega, by omega⟩ (by rw [bt.2]; exact h3), ?_⟩
    show rd M13 135 7 = _
    rw [e13, rd_wk (by decide)]
    exact p10.2
theorem sX7_setSheet (h : MI M) : Sf (mX7_setSheet 135 x1 x2 x3 M) (MP M) := by
  have no : Sf (mX7_setSheet_b41 135 x1 x2 x3 M) (MP M) := by
    unfold mX7_setSheet_b41 mX7_setSheet_b42
    refine Sf.m (mp_good h (by decide)) (fun M7 r6 p => Sf.i (fun _ => Sf.ok p.1) (fun c => absurd (p.2.2.resolve_left (i_ne c)) (by decide)))
  unfold mX7_setSheet
  refine Sf.c (sX7_between (Int32.toInt_toInt64 _) (b := 1) (by decide) (c := 60) (by decide)) (fun r2 p2 => Sf.i (fun _ => no) (fun c2 => Sf.c (sX7_between (Int32.toInt_toInt64 _) (b := 0) (by decide) (c := 200) (by decide)) (fun r19 p19 => Sf.i (fun _ => no) (fun c19 => Sf.c (sX7_between (Int32.toInt_toInt64 _) (b := 0) (by decide) (c := 100) (by decide)) (fun r23 p23 => Sf.i (fun _ => no) (fun c23 => ?_))))))
  have h1 := p2.2.resolve_left (i_ne c2)
  have h2 := p19.2.resolve_left (i_ne c19)
  have h3 := p23.2.resolve_left (i_ne c23)
  unfold mX7_setSheet_b42
  refine Sf.m (mp_good h (by decide)) (fun M7 r6 p => Sf.i (fun _ => Sf.ok p.1) (fun _ => Sf.m (sX7_set (x1 := (36 : Int32)) (x2 := x1) p.1.1 (by decide) (by decide) h1) (fun M11 r10 p11 => Sf.k (by decide) (Sf.b (fun M14 e14 => Sf.k (by decide) (Sf.b (fun M17 e17 => Sf.ok ?_)))))))
  have e14 : M14 = wr M11 136 37 x2 := e14
  have e17 : M17 = wr M14 136 38 x3 := e17
  have h14 : MI M14 := by rw [e14]; exact MI.put p11.1 (by decide) h2
  refine MP.trans p.1 ⟨by show MI M17; rw [e17]; exact MI.put h14 (by decide) h3, ?_⟩
  show rd M17 135 7 = _
  rw [e17, rd_wk (by decide), e14, rd_wk (by decide)]
  exact p11.2
theorem sX7_setCost (h : MI M) : Sf (mX7_setCost 135 x1 x2 x3 M) (MP M) := by
  have no : Sf (mX7_setCost_b41 135 x1 x2 x3 M) (MP M) := by
    unfold mX7_setCost_b41 mX7_setCost_b42
    refine Sf.m (mp_good h (by decide)) (fun M7 r6 p => Sf.i (fun _ => Sf.ok p.1) (fun c => absurd (p.2.2.resolve_left (i_ne c)) (by decide)))
  unfold mX7_setCost
  refine Sf.c (sX7_between (Int32.toInt_toInt64 _) (b := 0) (by decide) (c := 99) (by decide)) (fun r2 p2 => Sf.i (fun _ => no) (fun c2 => Sf.c (sX7_between (Int32.toInt_toInt64 _) (b := 0) (by decide) (c := 99) (by decide)) (fun r19 p19 => Sf.i (fun _ => no) (fun c19 => Sf.c (sX7_between (Int32.toInt_toInt64 _) (b := 0) (by decide) (c := 99) (by decide)) (fun r23 p23 => Sf.i (fun _ => no) (fun c23 => ?_))))))
  have h1 := p2.2.resolve_left (i_ne c2)
  have h2 := p19.2.resolve_left (i_ne c19)
  have h3 := p23.2.resolve_left (i_ne c23)
  unfold mX7_setCost_b42
  refine Sf.m (mp_good h (by decide)) (fun M7 r6 p => Sf.i (fun _ => Sf.ok p.1) (fun _ => Sf.m (sX7_set (x1 := (49 : Int32)) (x2 := x1) p.1.1 (by decide) (by decide) h1) (fun M11 r10 p11 => Sf.k (by decide) (Sf.b (fun M14 e14 => Sf.k (by decide) (Sf.b (fun M17 e17 => Sf.ok ?_)))))))
  have e14 : M14 = wr M11 136 50 x2 := e14
  have e17 : M17 = wr M14 136 51 x3 := e17
  have h14 : MI M14 := by rw [e14]; exact MI.put p11.1 (by decide) h2
  refine MP.trans p.1 ⟨by show MI M17; rw [e17]; exact MI.put h14 (by decide) h3, ?_⟩
  show rd M17 135 7 = _
  rw [e17, rd_wk (by decide), e14, rd_wk (by decide)]
  exact p11.2
/-! undo, unfold -/
theorem undo_l (h : OKm gS M0) (he : e < 10) (h4 : rd M0 135 4 = Int32.ofNat e) (hr : Row n m (fun j => rd M0 139 (86 * e + j))) : ∀ (fuel i : Nat) (M : Mem), i ≤ 86 → OKm gS M → (∀ k j, k ≠ 136 → rd M k j = rd M0 k j) → (∀ p, p < i → rd M 136 p = rd M0 139 (86 * e + p)) → 86 - i < fuel → Sf (mX7_undo_l26 135 fuel (Int32.ofNat i) M) (fun q => OKm gS q.1 ∧ (∀ k j, k ≠ 136 → rd q.1 k j = rd M0 k j) ∧ ∀ p, p < 86 → rd q.1 136 p = rd M0 139 (86 * e + p)) := by
  intro fuel
  induction fuel with
  | zero => intro i M _ _ _ _ h; exfalso; omega
  | succ fuel IH =>
    intro i M hi hM hk hp hf
    show Sf (mX7_undo_b26 135 (mX7_undo_l26 135 fuel) (Int32.ofNat i) M) _
    unfold mX7_undo_b26
    have ti : (Int32.ofNat i).toInt = (i : Int) := t_of (by omega)
    rw [hk 135 4 (by decide), h4]
    refine Sf.i (fun c => Sf.ok ?_) (fun c => ?_)
    · have c := i_le.mp c
      rw [ti, show ((86 : Int32)).toInt = 86 from rfl] at c
      exact ⟨hM, hk, fun p h9 => hp p (by omega)⟩
    · have c := i_nle c
      rw [ti, show ((86 : Int32)).toInt = 86 from rfl] at c
      refine Sf.k (ok_in (by rw [o86 (by omega) (by omega)]; omega) (by rw [o86 (by omega) (by omega)]; omega)) (Sf.k (ok_in (by omega) (by omega)) (Sf.b (fun M10 e10 => Sf.b (fun y ey => ?_))))
      rw [o86c (by omega) (by omega), c_of (by omega)] at e10
      have e10 : M10 = wr M 136 i (rd M 139 (86 * e + i)) := e10
      have ey : y = Int32.ofNat (i + 1) := ey.trans (Int32.ofNat_add i 1).symm
      rw [ey]
      have b1 : (bxS 0 ((86 * e + i) % 86)).1 ≤ (rd M 139 (86 * e + i)).toInt ∧ (rd M 139 (86 * e + i)).toInt ≤ (bxS 0 ((86 * e + i) % 86)).2 := hM.std 139 (86 * e + i)
      rw [show (86 * e + i) % 86 = i by omega] at b1
      have b2 : (bxS 1 i).1 ≤ (rd M 139 (86 * e + i)).toInt ∧ (rd M 139 (86 * e + i)).toInt ≤ (bxS 1 i).2 := by
        by_cases e9 : i = 36
        · subst e9
          have h36 := hr.2.2.2.2.1
          rw [hk 139 _ (by decide)] at b1 ⊢
          exact ⟨h36, b1.2⟩
        · have key : ∀ i, i < 86 → i ≠ 36 → bxS 1 i = bxS 0 i := by decide
          rw [key i (by omega) e9]; exact b1
      refine IH (i + 1) M10 (by omega) (by rw [e10]; exact put136 hM b2) (fun k j k1 => by rw [e10, rd_wk k1]; exact hk k j k1) (fun p hp9 => ?_) (by omega)
      by_cases e9 : p = i
      · subst e9; rw [e10, rd_we]; exact hk 139 _ (by decide)
      · rw [e10, rd_wj e9]; exact hp p (by omega)
theorem MI.th (h : MI M) : MI (wr M 135 5 v) ∧ rd (wr M 135 5 v) 135 7 = rd M 135 7 := by
  have := MP.of2 (r := ()) h (OKm.w2 (th_put h.1 (v := v))) (fun k j h1 _ => ?_)
  · exact ⟨this.1, this.2⟩
  · by_cases k1 : k = 135
    · subst k1; exact rd_wj (fun e => h1 (by unfold W1; omega))
    · exact rd_wk k1
theorem sX7_undo (h : MI M) : Sf (mX7_undo 135 M) (MP M) := by
  unfold mX7_undo
  refine Sf.b (fun M1 e1 => ?_)
  have h1 : MI M1 := by rw [e1]; exact h.th.1
  have k1 : rd M1 135 7 = rd M 135 7 := by rw [e1]; exact h.th.2
  have b : (0 : Int) ≤ (rd M1 135 4).toInt ∧ (rd M1 135 4).toInt ≤ 10 := h1.1.std 135 4
  refine Sf.i (fun _ => Sf.ok ⟨h1, k1⟩) (fun c => Sf.b (fun M4 e4 => ?_))
  have c := i_ne c
  rw [show ((0 : Int32)).toInt = 0 from rfl] at c
  have n1 : ((1 : Int32)).toInt = 1 := rfl
  have es := i_sub (a := rd M1 135 4) (b := 1) (by omega) (by omega)
  obtain ⟨e, ee⟩ : ∃ e : Nat, (e : Int) = (rd M1 135 4).toInt - 1 := ⟨((rd M1 135 4).toInt - 1).toNat, by omega⟩
  have h4 : rd M4 135 4 = Int32.ofNat e := by
    rw [e4, rd_we]
    apply i_eq.mpr
    rw [es, t_of (by omega)]; omega
  have o4 : OKm gS M4 := by rw [e4]; exact putE h1.1 (by omega)
  have k4 : ∀ k j, k ≠ 135 → rd M4 k j = rd M1 k j := fun k j hk => by rw [e4]; exact rd_wk hk
  obtain ⟨n, m, hr⟩ := h1.2.2 e (by omega)
  have hr4 : Row n m (fun j => rd M4 139 (86 * e + j)) := hr.of (fun j => k4 139 _ (by decide))
  refine Sf.mono (undo_l o4 (by omega) h4 hr4 5000 0 M4 (by omega) o4 (fun _ _ _ => rfl) (fun p hp => absurd hp (by omega)) (by omega)) (fun q hq => ?_)
  refine ⟨⟨hq.1, ⟨n, m, hr4.cong (fun j hj => hq.2.2 j hj)⟩, fun e' he' => ?_⟩, ?_⟩
  · rw [hq.2.1 135 4 (by decide), h4, t_of (by omega)] at he'
    obtain ⟨n, m, hr'⟩ := h1.2.2 e' (by omega)
    exact ⟨n, m, hr'.of (fun j => (hq.2.1 139 _ (by decide)).trans (k4 139 _ (by decide)))⟩
  · rw [hq.2.1 135 7 (by decide), e4, rd_wj (by decide)]; exact k1
theorem cntz0 : ∀ n, cntz 0 n = n := by
  intro n
  induction n with
  | zero => rfl
  | succ n ih =>
    show cntz 0 n + (if (0 : Nat).testBit n then 1 - 1 else 1) = n + 1
    rw [ih, Nat.zero_testBit]; rfl
theorem unfold_l : ∀ (fuel i : Nat) (M : Mem), 54 ≤ i → i ≤ 86 → OKm gS M → (∀ k j, ¬ (k = 136 ∧ 54 ≤ j) → rd M k j = rd M0 k j) → 86 - i < fuel → Sf (mX7_unfold_l36 135 fuel x1 (Int32.ofNat i) M) (fun q => OKm gS q.1 ∧ ∀ k j, ¬ (k = 136 ∧ 54 ≤ j) → rd q.1 k j = rd M0 k j) := by
  intro fuel
  induction fuel with
  | zero => intro i M _ _ _ _ h; exfalso; omega
  | succ fuel IH =>
    intro i M hi hi2 hM hk hf
    show Sf (mX7_unfold_b36 135 (mX7_unfold_l36 135 fuel) x1 (Int32.ofNat i) M) _
    unfold mX7_unfold_b36
    have ti : (Int32.ofNat i).toInt = (i : Int) := t_of (by omega)
    refine Sf.i (fun _ => Sf.ok ⟨hM, hk⟩) (fun c => ?_)
    have c := i_nle c
    rw [ti, show ((86 : Int32)).toInt = 86 from rfl] at c
    refine Sf.k (ok_in (by omega) (by omega)) (Sf.b (fun M17 e17 => Sf.b (fun y ey => ?_)))
    rw [c_of (by omega)] at e17
    have ey : y = Int32.ofNat (i + 1) := ey.trans (Int32.ofNat_add i 1).symm
    rw [ey]
    have key : ∀ i, i < 86 → 54 ≤ i → (bxS 1 i).1 ≤ 0 ∧ 0 ≤ (bxS 1 i).2 := by decide
    refine IH (i + 1) M17 (by omega) (by omega) (by rw [e17]; exact put136 hM (key i (by omega) hi)) (fun k j k1 => ?_) (by omega)
    rw [e17, ← hk k j k1]
    by_cases k3 : k = 136
    · subst k3; exact rd_wj (by omega)
    · exact rd_wk k3
theorem sX7_unfold (h : MI M) : Sf (mX7_unfold 135 M) (MP M) := by
  unfold mX7_unfold
  refine Sf.b (fun M1 e1 => ?_)
  have h1 : MI M1 := by rw [e1]; exact h.th.1
  have k1 : rd M1 135 7 = rd M 135 7 := by rw [e1]; exact h.th.2
  refine Sf.m (sX7_remember h1) (fun M5 _ p => Sf.k (by decide) (Sf.b (fun x _ => Sf.k (by decide) (Sf.b (fun M10 e10 => Sf.k (by decide) (Sf.b (fun M13 e13 => ?_)))))))
  have e10 : M10 = wr M5 136 53 0 := e10
  have e13 : M13 = wr M10 136 52 0 := e13
  have h5 : MI M5 := p.1
  have o5 : Out M1 M5 := p.2.1
  have o13 : OKm gS M13 := by rw [e13, e10]; exact put136 (put136 h5.1 (by decide)) (by decide)
  refine Sf.mono (unfold_l (M0 := M13) 5000 54 M13 (by omega) (by omega) o13 (fun _ _ _ => rfl) (by omega)) (fun q hq => ?_)
  obtain ⟨_, ⟨n, m, hR⟩, hH⟩ := h5
  have r136 : ∀ j, j < 52 → rd q.1 136 j = rd M5 136 j := fun j hj => by rw [hq.2 136 j (by omega), e13, rd_wj (by omega), e10, rd_wj (by omega)]
  have r52 : rd q.1 136 52 = Int32.ofNat 0 := by rw [hq.2 136 52 (by omega), e13, rd_we]; rfl
  have r53 : rd q.1 136 53 = Int32.ofNat 0 := by rw [hq.2 136 53 (by omega), e13, rd_wj (by decide), e10, rd_we]; rfl
  have ro : ∀ k j, k ≠ 136 → rd q.1 k j = rd M5 k j := fun k j hk => by rw [hq.2 k j (by omega), e13, rd_wk hk, e10, rd_wk hk]
  refine ⟨⟨hq.1, ⟨n, 0, ?_⟩, fun e' he' => ?_⟩, ?_⟩
  · have hp := z_pow n hR.2.1
    refine ⟨(r136 0 (by omega)).trans hR.1, hR.2.1, r52, by omega, by rw [r136 36 (by omega)]; exact hR.2.2.2.2.1, 0, r53, by rw [cntz0]; omega, fun j hj => absurd hj (by omega)⟩
  · rw [ro 135 4 (by decide)] at he'
    obtain ⟨n, m, hr⟩ := hH e' he'
    exact ⟨n, m, hr.of (fun j => ro 139 _ (by decide))⟩
  · rw [ro 135 7 (by decide), o5 135 7 (by decide) (by omega)]; exact k1
end EG
