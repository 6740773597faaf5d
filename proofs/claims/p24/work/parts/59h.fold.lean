/-! fold, foldNext, costIfTurned, greatestBeam -/
section FH
variable {M M' : Mem} {n m b : Nat} {x1 x2 : Int32}
theorem f_shl : ∀ k, k < 8 → ((1 : Int32) <<< (Int32.ofNat k &&& 31)) = Int32.ofNat (2 ^ k) := by decide +kernel
theorem bx_st : ∀ k, k < 8 → bxS 1 (54 + 4 * k) = (0, 7) ∧ bxS 1 (55 + 4 * k) = (0, 1) ∧ bxS 1 (56 + 4 * k) = bT ∧ bxS 1 (57 + 4 * k) = (0, 297) := by decide
theorem sX7_foldNow (h : MI M) (hR : Row n m (rd M 136)) (hb : b < n) (ht : m.testBit b = false) (h2 : 0 ≤ x2.toInt ∧ x2.toInt ≤ 1) : Sf (mX7_foldNow 135 (Int32.ofNat b) x2 M) (MP M) := by
  have hn := hR.2.1
  have hp := z_pow n hn
  have hm := hR.2.2.2.1
  have tb : (Int32.ofNat b).toInt = (b : Int) := t_of (by omega)
  unfold mX7_foldNow
  refine Sf.m (fr (R := fun q => 0 ≤ q.2.toInt ∧ q.2.toInt ≤ 297) h.1 (fun g' h' => sX7_costNow h' (by omega) h2)) (fun M3 r2 p3 => ?_)
  have k3 : Keep M M3 := p3.2.1
  have c2 : 0 ≤ r2.toInt ∧ r2.toInt ≤ 297 := p3.2.2
  have h3 : MI M3 := (MP.of2 (r := ()) h (OKm.w2 p3.1) k3.k2).1
  have q3 : rd M3 135 7 = rd M 135 7 := (MP.of2 (r := ()) h (OKm.w2 p3.1) k3.k2).2
  have R3 : Row n m (rd M3 136) := hR.keep2 k3.k2
  refine Sf.k (by decide) ?_
  show Sf (cal (mX7_gaugeOf 135 (Int32.ofNat b) x2 (rd M3 136 52) M3) _) _
  rw [R3.2.2.1]
  refine Sf.m (fr (R := fun _ => True) h3.1 (fun g' h' => Sf.mono (sX7_gaugeOf h' (x1 := Int32.ofNat b) (x2 := x2) (x3 := Int32.ofNat m) (by omega) h2 (by rw [t_of (by omega)]; omega)) (fun q hq => ⟨hq.1, trivial⟩))) (fun M7 r6 p7 => ?_)
  have k7 : Keep M3 M7 := p7.2.1
  have h7 := MP.of2 (r := ()) h3 (OKm.w2 p7.1) k7.k2
  have R7 : Row n m (rd M7 136) := R3.keep2 k7.k2
  refine Sf.m (sX7_remember h7.1) (fun M10 _ p10 => ?_)
  have h10 : MI M10 := p10.1
  have o10 : Out M7 M10 := p10.2.1
  have q10 : rd M10 135 7 = rd M 135 7 := (o10 135 7 (by decide) (by omega)).trans (h7.2.trans q3)
  have R10 : Row n m (rd M10 136) := R7.of (fun j => o10 136 j (by decide) (by omega))
  obtain ⟨e0, _, e52, _, e36, k, e53, hk, hl⟩ := R10
  have hz := z_set n hn m hm b hb ht
  have hk8 : k < 8 := by omega
  have bx := bx_st k hk8
  have t54 : ((54 : Int32) + ((4 : Int32) * Int32.ofNat k)).toInt = 54 + 4 * (k : Int) := by
    have tk : (Int32.ofNat k).toInt = (k : Int) := t_of (by omega)
    have a := i_mulc (a := (4 : Int32)) (b := Int32.ofNat k) (c := 4) rfl (by omega) (by omega)
    rw [i_add (by rw [show ((54 : Int32)).toInt = 54 from rfl]; omega) (by rw [show ((54 : Int32)).toInt = 54 from rfl]; omega), a, show ((54 : Int32)).toInt = 54 from rfl]
    omega
  refine Sf.k (by decide) (Sf.b (fun x5 e5 => ?_))
  have e5 : x5 = (54 : Int32) + ((4 : Int32) * rd M10 136 53) := e5
  rw [e53] at e5
  have t5 : x5.toInt = 54 + 4 * (k : Int) := by rw [e5]; exact t54
  have n1 : ((1 : Int32)).toInt = 1 := rfl
  have n2 : ((2 : Int32)).toInt = 2 := rfl
  have n3 : ((3 : Int32)).toInt = 3 := rfl
  have t6 := i_add (a := x5) (b := 1) (by omega) (by omega)
  have t7 := i_add (a := x5) (b := 2) (by omega) (by omega)
  have t8 := i_add (a := x5) (b := 3) (by omega) (by omega)
  have c5 : x5.toNatClampNeg = 54 + 4 * k := by rw [i_clamp]; omega
  have c6 : (x5 + 1).toNatClampNeg = 55 + 4 * k := by rw [i_clamp]; omega
  have c7 : (x5 + 2).toNatClampNeg = 56 + 4 * k := by rw [i_clamp]; omega
  have c8 : (x5 + 3).toNatClampNeg = 57 + 4 * k := by rw [i_clamp]; omega
  rw [c5, c6, c7, c8]
  refine Sf.k (ok_in (by omega) (by omega)) (Sf.b (fun M15 e15 => Sf.k (ok_in (by omega) (by omega)) (Sf.b (fun M18 e18 => Sf.k (ok_in (by omega) (by omega)) (Sf.b (fun M21 e21 => Sf.k (ok_in (by omega) (by omega)) (Sf.b (fun M24 e24 => Sf.k (by decide) (Sf.k (by decide) (Sf.b (fun M28 e28 => Sf.k (by decide) (Sf.k (by decide) (Sf.b (fun M32 e32 => Sf.ok ?_))))))))))))))
  have e15 : M15 = wr M10 136 (54 + 4 * k) (Int32.ofNat b) := e15
  have e18 : M18 = wr M15 136 (55 + 4 * k) x2 := e18
  have e21 : M21 = wr M18 136 (56 + 4 * k) r6 := e21
  have e24 : M24 = wr M21 136 (57 + 4 * k) r2 := e24
  have e28 : M28 = wr M24 136 53 (rd M24 136 53 + 1) := e28
  have e32 : M32 = wr M28 136 52 (rd M28 136 52 ||| ((1 : Int32) <<< (Int32.ofNat b &&& 31))) := e32
  have r24 : ∀ j, j < 54 → rd M24 136 j = rd M10 136 j := fun j hj => by rw [e24, rd_wj (by omega), e21, rd_wj (by omega), e18, rd_wj (by omega), e15, rd_wj (by omega)]
  have v53 : rd M24 136 53 + 1 = Int32.ofNat (k + 1) := by rw [r24 53 (by omega), e53]; exact (Int32.ofNat_add k 1).symm
  rw [v53] at e28
  have v52 : (rd M28 136 52 ||| ((1 : Int32) <<< (Int32.ofNat b &&& 31))) = Int32.ofNat (m ||| 2 ^ b) := by
    rw [e28, rd_wj (by decide), r24 52 (by omega), e52]
    exact f_or m (by omega) b (by omega)
  rw [v52] at e32
  have o15 : OKm gS M15 := by rw [e15]; exact put136 h10.1 (by rw [bx.1]; exact ⟨by show (0 : Int) ≤ _; omega, by show _ ≤ (7 : Int); omega⟩)
  have o18 : OKm gS M18 := by rw [e18]; exact put136 o15 (by rw [bx.2.1]; exact h2)
  have o21 : OKm gS M21 := by rw [e21]; exact put136 o18 (by rw [bx.2.2.1]; exact i_rng _)
  have o24 : OKm gS M24 := by rw [e24]; exact put136 o21 (by rw [bx.2.2.2]; exact c2)
  have o28 : OKm gS M28 := by rw [e28]; exact put136 o24 (by rw [t_of (by omega)]; exact ⟨by show (0 : Int) ≤ _; omega, by show _ ≤ (8 : Int); omega⟩)
  have o32 : OKm gS M32 := by rw [e32]; exact put136 o28 (by rw [t_of (by omega)]; exact ⟨by show (0 : Int) ≤ _; omega, by show _ ≤ (255 : Int); omega⟩)
  have ro : ∀ k' j, k' ≠ 136 → rd M32 k' j = rd M10 k' j := fun k' j hk' => by rw [e32, rd_wk hk', e28, rd_wk hk', e24, rd_wk hk', e21, rd_wk hk', e18, rd_wk hk', e15, rd_wk hk']
  have rl' : ∀ j, j < 52 → rd M32 136 j = rd M10 136 j := fun j hj => by rw [e32, rd_wj (by omega), e28, rd_wj (by omega)]; exact r24 j (by omega)
  refine ⟨⟨o32, ⟨n, m ||| 2 ^ b, ?_⟩, fun e' he' => ?_⟩, ?_⟩
  · refine ⟨(rl' 0 (by omega)).trans e0, hn, by show rd M32 136 52 = _; rw [e32, rd_we], hz.2.2.1, by show 1 ≤ (rd M32 136 36).toInt; rw [rl' 36 (by omega)]; exact e36, k + 1, by show rd M32 136 53 = _; rw [e32, rd_wj (by decide), e28, rd_we], by omega, fun j hj => ⟨b, hb, ?_, hz.2.2.2⟩⟩
    have : j = k := by omega
    subst this
    show rd M32 136 (54 + 4 * j) = _
    rw [e32, rd_wj (by omega), e28, rd_wj (by omega), e24, rd_wj (by omega), e21, rd_wj (by omega), e18, rd_wj (by omega), e15, rd_we]
  · rw [ro 135 4 (by decide)] at he'
    obtain ⟨n, m, hr⟩ := h10.2.2 e' he'
    exact ⟨n, m, hr.of (fun j => ro 139 _ (by decide))⟩
  · show rd M32 135 7 = _
    rw [ro 135 7 (by decide)]; exact q10
theorem sX7_fold (h : MI M) : Sf (mX7_fold 135 x1 x2 M) (MP M) := by
  obtain ⟨n, m, hR⟩ := h.2.1
  have hn := hR.2.1
  have hp := z_pow n hn
  have hm := hR.2.2.2.1
  have no : ∀ (y1 y2 : Int32) (M : Mem), MI M → Sf (mX7_fold_b46 135 x1 x2 y1 y2 (0 : Int32) M) (MP M) := by
    intro y1 y2 M h
    unfold mX7_fold_b46
    refine Sf.m (mp_good__ h) (fun M10 r9 p => Sf.i (fun _ => Sf.ok p.1) (fun c => ?_))
    exact absurd rfl (p.2.2.2.resolve_left (i_ne c)).2.2
  unfold mX7_fold mX7_fold_b45
  refine Sf.c (sX7_isBend h.1) (fun r2 p2 => Sf.c sX7_isSide (fun r5 p5 => Sf.i (fun _ => no _ _ M h) (fun c2 => Sf.i (fun _ => no _ _ M h) (fun c5 => Sf.k (by decide) ?_))))
  have hb := p2.2.resolve_left (i_ne c2)
  have hs := p5.2.resolve_left (i_ne c5)
  have hb0 : x1.toInt ≤ (rd M 136 0).toInt - 1 := hb.2.1
  rw [hR.1, t_of (by omega)] at hb0
  have e1 := o_of (x := x1) hb.1
  have e2 := o_of (x := x2) hs.1
  show Sf (cal (mX7_reasonOf 135 x1 x2 (rd M 136 52) M) _) _
  rw [hR.2.2.1]
  have hbn : x1.toInt.toNat < n := by omega
  have pr := pl_reason (g := gS) (M := M) (a := m) (c := 2 * x1.toInt.toNat + x2.toInt.toNat) h.1 (by omega) (by omega)
  rw [f_mod _ (by omega), f_half _ (by omega), show (2 * x1.toInt.toNat + x2.toInt.toNat) / 2 = x1.toInt.toNat by omega, show (2 * x1.toInt.toNat + x2.toInt.toNat) % 2 = x2.toInt.toNat by omega, ← e1, ← e2] at pr
  refine Sf.m pr (fun M19 r18 p19 => ?_)
  have k19 : Keep M M19 := p19.2.1
  have h19 := MP.of2 (r := ()) h (OKm.w2 p19.1) k19.k2
  have R19 : Row n m (rd M19 136) := hR.keep2 k19.k2
  refine Sf.i (fun c18 => ?_) (fun _ => ?_)
  · have ht : m.testBit x1.toInt.toNat = false := p19.2.2 c18
    unfold mX7_fold_b46
    refine Sf.m (mp_good__ h19.1) (fun M10 r9 p => Sf.i (fun _ => Sf.ok ⟨p.1.1, p.1.2.trans h19.2⟩) (fun _ => ?_))
    have R10 : Row n m (rd M10 136) := R19.keep2 (Keep.k2 p.2.1)
    rw [e1]
    refine Sf.m (sX7_foldNow p.1.1 R10 hbn ht hs) (fun M14 r13 p14 => Sf.ok ⟨p14.1, ?_⟩)
    exact p14.2.trans (p.1.2.trans h19.2)
  · exact Sf.mono (no _ _ M19 h19.1) (fun q hq => ⟨hq.1, hq.2.trans h19.2⟩)
theorem sX7_foldNext (h : MI M) : Sf (mX7_foldNext 135 M) (MP M) := by
  obtain ⟨n, m, hR⟩ := h.2.1
  have hn := hR.2.1
  have hp := z_pow n hn
  have hm := hR.2.2.2.1
  unfold mX7_foldNext mX7_foldNext_b23
  refine Sf.m (fr2 (R := fun q => Pl (gAll M) n m q.1 ∧ Ald n m q.1 0) h.1 (fun g' h' => ?_)) (fun M3 _ p => ?_)
  · obtain ⟨y, e, h1, h2⟩ := sX7_layCosts' h' hR.nm
    obtain ⟨y', e', h1', h2'⟩ := sX7_layCosts' h.1.all hR.nm
    rw [e] at e'
    cases e'
    exact ⟨y, e, h1.1, h1', h2'⟩
  · obtain ⟨h3, k3, P3, A3⟩ := p
    have h3 : OKm (w2 gS) M3 := h3
    have k3 : Keep2 M M3 := k3
    have P3 : Pl (gAll M) n m M3 := P3
    have I3 := MP.of2 (r := ()) h h3 k3
    have R3 := hR.keep2 k3
    have no : Sf (mX7_foldNext_b24 135 (0 : Int32) M3) (MP M) := by
      unfold mX7_foldNext_b24
      refine Sf.m (mp_good I3.1 (by decide)) (fun M10 r9 p => Sf.i (fun _ => Sf.ok ⟨p.1.1, p.1.2.trans I3.2⟩) (fun c => ?_))
      exact absurd (p.2.2.resolve_left (i_ne c)) (by decide)
    refine Sf.c (pl_isOrder P3.2.1) (fun r5 p5 => Sf.i (fun _ => no) (fun c5 => Sf.c (pl_unmade h3 P3.2.1) (fun r24 p24 => Sf.i (fun _ => no) (fun c24 => ?_))))
    have h0 := p5.2.resolve_left (i_ne c5)
    have c24 := i_nle c24
    rw [show ((0 : Int32)).toInt = 0 from rfl] at c24
    unfold mX7_foldNext_b24
    refine Sf.m (fr (R := fun q => zor q.2 (¬ ((1 : Int32)).toInt = 0)) I3.1.1 (fun g' h' => sX7_good h' (by decide))) (fun M10 r9 p10 => ?_)
    have k10 : Keep M3 M10 := p10.2.1
    have I10 := MP.of2 (r := ()) I3.1 (OKm.w2 p10.1) k10.k2
    refine Sf.i (fun _ => Sf.ok ⟨I10.1, I10.2.trans I3.2⟩) (fun c => Sf.k (by decide) ?_)
    have P10 : Pl (gAll M) n m M10 := P3.keep (P3.1.of_kept k10) k10
    have A10 : Ald n m M10 0 := Ald.keep A3 P3 k10
    have R10 : Row n m (rd M10 136) := R3.keep2 k10.k2
    refine Sf.c (pl_last I10.1.1 R10) (fun r15 p15 => ?_)
    obtain ⟨l, rfl, hl⟩ := p15
    have m10 : mn M10 m = mn M3 m := by unfold mn; rw [k10.2]
    show Sf (cap (mX7_bestStep 135 (rd M10 136 52) (Int32.ofNat l) M10) _) _
    rw [R10.2.2.1]
    refine Sf.c (pl_best P10 A10 hm (Nat.and_self m) hl (by rw [m10]; exact h0) (fun e => ?_)) (fun r17 p17 => ?_)
    · rw [e, (z_full2 n hn).1] at p24; omega
    · obtain ⟨c', hc', rfl, q1, q2⟩ := p17
      have G := P10.2.2 m (by omega) hm (Nat.and_self m)
      have ht := G.2.2.1 c' hc' q1
      rw [f_mod c' (by omega), f_half c' (by omega)]
      refine Sf.m (sX7_foldNow (b := c' / 2) (x2 := Int32.ofNat (c' % 2)) I10.1 R10 (by omega) ht (by rw [t_of (by omega)]; omega)) (fun M21 r20 p21 => Sf.ok ⟨p21.1, ?_⟩)
      exact p21.2.trans (I10.2.trans I3.2)
theorem sX7_costIfTurned (h : MI M) : Sf (mX7_costIfTurned 135 x1 M) (MP M) := by
  have b21 : ∀ r2 y : Int32, zor r2 (0 ≤ x1.toInt ∧ x1.toInt ≤ 7) → Sf (mX7_costIfTurned_b21 135 x1 r2 y M) (MP M) := by
    intro r2 y p2
    unfold mX7_costIfTurned_b21
    refine Sf.m (mp_good_ h) (fun M8 r7 p => Sf.i (fun _ => Sf.ok p.1) (fun c => ?_))
    have h1 := p2.2.resolve_left (p.2.2.resolve_left (i_ne c)).1
    have n11 : ((11 : Int32)).toInt = 11 := rfl
    have n1 : ((1 : Int32)).toInt = 1 := rfl
    have e := i_add (a := (11 : Int32)) (b := x1) (by omega) (by omega)
    have ec : ((11 : Int32) + x1).toNatClampNeg = 11 + x1.toInt.toNat := by rw [i_clamp]; omega
    have bu := bx_up x1.toInt.toNat (by omega)
    have ok : okb ((11 : Int32) + x1) 86 = true := ok_in (by omega) (by omega)
    have h8 : MI M8 := p.1.1
    have q8 : rd M8 135 7 = rd M 135 7 := p.1.2
    have turn : ∀ M : Mem, MI M → (0 : Int) ≤ ((1 : Int32) - rd M 136 (11 + x1.toInt.toNat)).toInt ∧ ((1 : Int32) - rd M 136 (11 + x1.toInt.toNat)).toInt ≤ 1 := by
      intro M h
      have b : (bxS 1 (11 + x1.toInt.toNat)).1 ≤ (rd M 136 (11 + x1.toInt.toNat)).toInt ∧ (rd M 136 (11 + x1.toInt.toNat)).toInt ≤ (bxS 1 (11 + x1.toInt.toNat)).2 := h.1.std 136 (11 + x1.toInt.toNat)
      rw [bu] at b
      have b : (0 : Int) ≤ (rd M 136 (11 + x1.toInt.toNat)).toInt ∧ (rd M 136 (11 + x1.toInt.toNat)).toInt ≤ 1 := b
      have := i_sub (a := (1 : Int32)) (b := rd M 136 (11 + x1.toInt.toNat)) (by omega) (by omega)
      omega
    refine Sf.k ok (Sf.k ok (Sf.b (fun M13 e13 => ?_)))
    rw [ec] at e13
    have e13 : M13 = wr M8 136 (11 + x1.toInt.toNat) ((1 : Int32) - rd M8 136 (11 + x1.toInt.toNat)) := e13
    have h13 : MI M13 := by rw [e13]; exact MI.put h8 ⟨by omega, by omega, by omega, by omega⟩ (by rw [bu]; exact turn M8 h8)
    have q13 : rd M13 135 7 = rd M 135 7 := by rw [e13, rd_wk (by decide)]; exact q8
    obtain ⟨n, m, hR⟩ := h13.2.1
    refine Sf.m (mp2 h13 (fun g' h' => sX7_leastNow h' hR)) (fun M16 r15 p16 => Sf.k ok (Sf.k ok (Sf.b (fun M20 e20 => Sf.ok ?_))))
    have h16 : MI M16 := p16.1
    have q16 : rd M16 135 7 = rd M13 135 7 := p16.2
    rw [ec] at e20
    have e20 : M20 = wr M16 136 (11 + x1.toInt.toNat) ((1 : Int32) - rd M16 136 (11 + x1.toInt.toNat)) := e20
    refine ⟨by show MI M20; rw [e20]; exact MI.put h16 ⟨by omega, by omega, by omega, by omega⟩ (by rw [bu]; exact turn M16 h16), ?_⟩
    show rd M20 135 7 = _
    rw [e20, rd_wk (by decide), q16, q13]
  unfold mX7_costIfTurned
  exact Sf.c (sX7_isBend h.1) (fun r2 p2 => Sf.k (by decide) (Sf.i (fun _ => b21 _ _ ⟨p2.1, p2.2.imp id (fun q => ⟨q.1, q.2.2⟩)⟩) (fun _ => b21 _ _ ⟨p2.1, p2.2.imp id (fun q => ⟨q.1, q.2.2⟩)⟩)))
theorem beam_l (hx : 0 ≤ x1.toInt ∧ x1.toInt ≤ 9999) : ∀ (fuel k : Nat) (x2 x3 : Int32) (M : Mem), x3.toInt = 100 * (k : Int) - 100 → k ≤ 21 → MI M → k < fuel → Sf (mX7_greatestBeam_l19 135 fuel x1 x2 x3 M) (MP M) := by
  intro fuel
  induction fuel with
  | zero => intro k x2 x3 M _ _ _ h; exfalso; omega
  | succ fuel IH =>
    intro k x2 x3 M h3 hk h hf
    show Sf (mX7_greatestBeam_b19 135 (mX7_greatestBeam_l19 135 fuel) x1 x2 x3 M) _
    unfold mX7_greatestBeam_b19
    have b59 : ∀ (y : Int32) (M' : Mem), MI M' → rd M' 135 7 = rd M 135 7 → Sf (mX7_greatestBeam_b59 135 x1 y M') (MP M) := by
      intro y M' h' q'
      unfold mX7_greatestBeam_b59
      refine Sf.k (by decide) (Sf.b (fun M8 e8 => Sf.ok ⟨by show MI M8; rw [e8]; exact MI.put (j := 40) h' (by decide) hx, ?_⟩))
      show rd M8 135 7 = _
      rw [e8, rd_wk (by decide)]; exact q'
    refine Sf.i (fun _ => b59 x2 M h rfl) (fun c => Sf.i (fun _ => Sf.k (by decide) (Sf.b (fun M12 e12 => ?_))) (fun _ => b59 x2 M h rfl))
    have c := i_nlt c
    rw [show ((0 : Int32)).toInt = 0 from rfl] at c
    have e12 : M12 = wr M 136 40 x3 := e12
    have h12 : MI M12 := by rw [e12]; exact MI.put h (by decide) (by show (0 : Int) ≤ _ ∧ _ ≤ (9999 : Int); omega)
    have q12 : rd M12 135 7 = rd M 135 7 := by rw [e12]; exact rd_wk (by decide)
    obtain ⟨n, m, hR⟩ := h12.2.1
    refine Sf.m (fr2 (R := fun q => NM n m q.1) h12.1 (fun g' h' => Sf.mono (sX7_layOrders' h' hR.nm) (fun q hq => ⟨hq.1, hq.2.1⟩))) (fun M15 _ p15 => ?_)
    have I15 := MP.of2 (r := ()) h12 p15.1 p15.2.1
    have nx : ∀ y : Int32, Sf (mX7_greatestBeam_b52 135 (mX7_greatestBeam_l19 135 fuel) x1 x3 y M15) (MP M) := by
      intro y
      unfold mX7_greatestBeam_b52
      refine Sf.b (fun z ez => ?_)
      have tz : z.toInt = x3.toInt - 100 := by rw [ez, i_add (by rw [show ((-100 : Int32)).toInt = -100 from rfl]; omega) (by rw [show ((-100 : Int32)).toInt = -100 from rfl]; omega)]; rfl
      exact Sf.mono (IH (k - 1) y z M15 (by omega) (by omega) I15.1 (by omega)) (fun q hq => ⟨hq.1, hq.2.trans (I15.2.trans q12)⟩)
    exact Sf.c (pl_isOrder p15.2.2) (fun r17 _ => Sf.i (fun _ => nx _) (fun _ => nx _))
theorem sX7_greatestBeam (h : MI M) : Sf (mX7_greatestBeam 135 M) (MP M) := by
  unfold mX7_greatestBeam
  refine Sf.b (fun M1 e1 => Sf.k (by decide) (Sf.b (fun x1 ex => ?_)))
  have h1 : MI M1 := by rw [e1]; exact h.th.1
  have k1 : rd M1 135 7 = rd M 135 7 := by rw [e1]; exact h.th.2
  have b : (0 : Int) ≤ (rd M1 136 40).toInt ∧ (rd M1 136 40).toInt ≤ 9999 := h1.1.std 136 40
  have ex : x1 = rd M1 136 40 := ex
  exact Sf.mono (beam_l (x1 := x1) (by rw [ex]; exact b) 5000 21 (-1) 2000 M1 (by decide) (by omega) h1 (by omega)) (fun q hq => ⟨hq.1, hq.2.trans k1⟩)
end FH
