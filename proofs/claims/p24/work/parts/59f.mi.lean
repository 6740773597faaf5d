/-! what holds of the reference's memory between two calls -/
def gS : Gm := (stdM, fun _ _ _ => True)
def HR (M : Mem) : Prop := ∀ e : Nat, (e : Int) < (rd M 135 4).toInt → ∃ n m, Row n m (fun j => rd M 139 (86 * e + j))
def MI (M : Mem) : Prop := OKm gS M ∧ (∃ n m, Row n m (rd M 136)) ∧ HR M
def MP {ρ : Type} (M : Mem) (q : Mem × ρ) : Prop := MI q.1 ∧ rd q.1 135 7 = rd M 135 7
section MF
variable {ρ : Type} {g : Gm} {M M' : Mem} {n m : Nat}
theorem gS_of (h : OKm (w2 gS) M) : OKm gS M := by
  have e : ∀ k j, (w2 gS).1 k j = stdM k j := fun k j => by
    show (if 145 ≤ k ∧ k ≤ 150 then stdM k j else stdM k j) = stdM k j
    split <;> rfl
  refine ⟨fun k j => ⟨Int.le_refl _, Int.le_refl _⟩, fun k j => ?_, fun _ _ => trivial⟩
  have h2 := h.2.1 k j
  unfold bxm at h2 ⊢
  rw [e] at h2
  exact h2
theorem gS_up (h : OKm g M) : OKm gS M := by
  refine ⟨fun k j => ⟨Int.le_refl _, Int.le_refl _⟩, fun k j => ?_, fun _ _ => trivial⟩
  have h2 := h.std k j
  unfold bxm
  split
  · exact i_rng _
  · exact h2
theorem MP.of2 (h : MI M) (h' : OKm (w2 gS) M') (hk : Keep2 M M') {r : ρ} : MP M (M', r) := by
  obtain ⟨_, ⟨n, m, hR⟩, hH⟩ := h
  refine ⟨⟨gS_of h', ⟨n, m, hR.keep2 hk⟩, fun e he => ?_⟩, hk 135 7 (by unfold W1; omega) (by omega)⟩
  have e4 : rd M' 135 4 = rd M 135 4 := hk 135 4 (by unfold W1; omega) (by omega)
  obtain ⟨n, m, hr⟩ := hH e (by rw [← e4]; exact he)
  exact ⟨n, m, hr.of (fun j => hk 139 _ (by unfold W1; omega) (by omega))⟩
theorem mp2 {x : Option (Mem × ρ)} (h : MI M) (hx : ∀ g', OKm g' M → Sf x (qM (w2 g'))) : Sf x (MP M) :=
  Sf.mono (fr2 (R := fun _ => True) h.1 (fun g' h' => Sf.mono (hx g' h') (fun q hq => ⟨hq, trivial⟩))) (fun q hq => MP.of2 h hq.1 hq.2.1)
theorem mp1 {x : Option (Mem × ρ)} (h : MI M) (hx : ∀ g', OKm g' M → Sf x (qM g')) : Sf x (MP M) :=
  Sf.mono (fr (R := fun _ => True) h.1 (fun g' h' => Sf.mono (hx g' h') (fun q hq => ⟨hq, trivial⟩))) (fun q hq => MP.of2 h (OKm.w2 hq.1) hq.2.1.k2)
theorem mpi {x : Option (Mem × Int32)} {lo hi : Int} (h : MI M) (hx : ∀ g', OKm g' M → Sf x (qMI g' lo hi)) : Sf x (MP M) :=
  mp1 h (fun g' h' => Sf.mono (hx g' h') (fun q hq => hq.1))
theorem row_th {v : Int32} (h : Row n m (rd M 136)) : Row n m (rd (wr M 135 5 v) 136) := h.of (fun j => rd_wk (by decide))
/-! orders, costs -/
theorem lo (h : OKm g M) (hN : NM n m M) : Sf (mX7_layOrders 135 M) (fun q => OKm (w2 g) q.1 ∧ Keep2 M q.1 ∧ NM n m q.1) :=
  Sf.mono (fr2 (R := fun q => NM n m q.1) h (fun g' h' => Sf.mono (sX7_layOrders' h' hN) (fun q hq => ⟨hq.1, hq.2.1⟩))) (fun q hq => hq)
theorem lc (h : OKm g M) (hN : NM n m M) : Sf (mX7_layCosts 135 M) (fun q => OKm (w2 g) q.1 ∧ Keep2 M q.1 ∧ NM n m q.1) :=
  Sf.mono (fr2 (R := fun q => NM n m q.1) h (fun g' h' => Sf.mono (sX7_layCosts' h' hN) (fun q hq => ⟨hq.1.1, hq.1.2.1⟩))) (fun q hq => hq)
theorem NM.m256 (h : NM n m M) : m < 256 := by have := z_pow n h.2.1; have := h.2.2.2; omega
theorem sX7_orders (h : OKm g M) (hR : Row n m (rd M 136)) : Sf (mX7_orders 135 M) (qM (w2 g)) := by
  unfold mX7_orders
  refine Sf.b (fun M1 e1 => ?_)
  subst e1
  refine Sf.m (lo (th_put h) (row_th hR).nm) (fun M5 _ p => ?_)
  have N5 : NM n m M5 := p.2.2
  have hm := N5.m256
  show Sf (chk (okb (52 : Int32) 86) (chk (okb (rd M5 136 52) 256) _)) _
  rw [N5.2.2.1]
  exact Sf.k (by decide) (Sf.k (ok_in (by rw [t_of (by omega)]; omega) (by rw [t_of (by omega)]; omega)) (Sf.ok p.1))
theorem at17 {x : Int32} (hm : m < 256) (hx : 0 ≤ x.toInt ∧ x.toInt ≤ 16) : okb ((17 : Int32) * Int32.ofNat m + x) 4352 = true := by
  have e := o_of (x := x) hx.1
  rw [e]
  exact ok_in (by rw [ix17 hm (by omega)]; omega) (by rw [ix17 hm (by omega)]; omega)
theorem sX7_leastNow (h : OKm g M) (hR : Row n m (rd M 136)) : Sf (mX7_leastNow 135 M) (qM (w2 g)) := by
  unfold mX7_leastNow
  refine Sf.m (lc h hR.nm) (fun M3 _ p => ?_)
  have N3 : NM n m M3 := p.2.2
  have h3 : OKm (w2 g) M3 := p.1
  refine Sf.c (pl_isOrder N3) (fun r5 _ => Sf.i (fun _ => Sf.ok h3) (fun _ => Sf.k (by decide) (Sf.c (sX7_lastNow h3) (fun r10 pr => ?_))))
  refine Sf.k ?_ (Sf.ok h3)
  show okb ((17 : Int32) * rd M3 136 52 + r10) 4352 = true
  rw [N3.2.2.1]
  exact at17 N3.m256 pr
theorem sX7_leastCost (h : OKm g M) (hR : Row n m (rd M 136)) : Sf (mX7_leastCost 135 M) (qM (w2 g)) := by
  unfold mX7_leastCost
  refine Sf.b (fun M1 e1 => ?_)
  subst e1
  exact Sf.m (sX7_leastNow (th_put h) (row_th hR)) (fun M5 r4 p => Sf.ok p)
theorem sX7_greatestCost (h : OKm g M) (hR : Row n m (rd M 136)) : Sf (mX7_greatestCost 135 M) (qM (w2 g)) := by
  unfold mX7_greatestCost
  refine Sf.b (fun M1 e1 => ?_)
  subst e1
  refine Sf.m (lc (th_put h) (row_th hR).nm) (fun M3 _ p => ?_)
  have N3 : NM n m M3 := p.2.2
  have h3 : OKm (w2 g) M3 := p.1
  refine Sf.c (pl_isOrder N3) (fun r5 _ => Sf.i (fun _ => Sf.ok h3) (fun _ => Sf.k (by decide) (Sf.c (sX7_lastNow h3) (fun r10 pr => ?_))))
  refine Sf.k ?_ (Sf.ok h3)
  show okb ((17 : Int32) * rd M3 136 52 + r10) 4352 = true
  rw [N3.2.2.1]
  exact at17 N3.m256 pr
theorem sX7_plannedSteps (h : OKm g M) (hR : Row n m (rd M 136)) : Sf (mX7_plannedSteps 135 M) (qM (w2 g)) := by
  unfold mX7_plannedSteps
  refine Sf.b (fun M1 e1 => ?_)
  subst e1
  refine Sf.m (lo (th_put h) (row_th hR).nm) (fun M5 _ p => ?_)
  have h5 : OKm (w2 g) M5 := p.1
  exact Sf.c (pl_isOrder p.2.2) (fun r7 _ => Sf.i (fun _ => Sf.ok h5) (fun _ => Sf.c (pl_unmade h5 p.2.2) (fun r11 _ => Sf.ok h5)))
theorem sX7_ordersWith {x1 x2 : Int32} (h : OKm g M) (hR : Row n m (rd M 136)) : Sf (mX7_ordersWith 135 x1 x2 M) (qM (w2 g)) := by
  unfold mX7_ordersWith
  refine Sf.c (sX7_isBend h) (fun r2 p2 => Sf.c sX7_isSide (fun r5 p5 => ?_))
  refine Sf.m (fr (R := fun q => zor q.2 (¬ r2.toInt = 0 ∧ ¬ r5.toInt = 0)) h (fun g' h' => sX7_good_ h')) (fun M9 r8 p8 => Sf.i (fun _ => Sf.ok (OKm.w2 p8.1)) (fun c8 => ?_))
  have q8 := p8.2.2.2.resolve_left (i_ne c8)
  have hb := p2.2.resolve_left q8.1
  have hs := p5.2.resolve_left q8.2
  have k9 : Keep M M9 := p8.2.1
  have N9 : NM n m M9 := hR.nm.keep k9
  refine Sf.m (lo (show OKm g M9 from p8.1) N9) (fun M13 _ p => ?_)
  have h13 : OKm (w2 g) M13 := p.1
  have N13 : NM n m M13 := p.2.2
  have hm := N13.m256
  show Sf (chk (okb (52 : Int32) 86) (chk (okb ((((16 : Int32) * rd M13 136 52) + ((2 : Int32) * x1)) + x2) 4096) (ite2 (rd M13 (135 + 10) (((((16 : Int32) * rd M13 136 52) + ((2 : Int32) * x1)) + x2)).toNatClampNeg = 0) (some (M13, (0 : Int64))) (chk (okb (52 : Int32) 86) (chk (okb (rd M13 136 52 ||| ((1 : Int32) <<< (x1 &&& 31))) 256) (some (M13, rl M13 (135 + 12) ((rd M13 136 52 ||| ((1 : Int32) <<< (x1 &&& 31)))).toNatClampNeg))))))) _
  rw [N13.2.2.1]
  have e1 := o_of (x := x1) hb.1
  have tm : (Int32.ofNat m).toInt = (m : Int) := t_of (by omega)
  have a1 := i_mulc (a := (16 : Int32)) (b := Int32.ofNat m) (c := 16) rfl (by omega) (by omega)
  have a2 := i_mulc (a := (2 : Int32)) (b := x1) (c := 2) rfl (by omega) (by omega)
  have a3 := i_add (a := (16 : Int32) * Int32.ofNat m) (b := (2 : Int32) * x1) (by omega) (by omega)
  have a4 := i_add (a := (16 : Int32) * Int32.ofNat m + (2 : Int32) * x1) (b := x2) (by omega) (by omega)
  refine Sf.k (by decide) (Sf.k (ok_in (by omega) (by omega)) (Sf.i (fun _ => Sf.ok h13) (fun _ => Sf.k (by decide) (Sf.k ?_ (Sf.ok h13)))))
  have o := i_or (a := Int32.ofNat m) (b := (1 : Int32) <<< (x1 &&& 31)) 8 (by decide) (by rw [tm]; omega) (by have := i_shl (b := x1) 7 (by decide) (by omega); omega)
  exact ok_in o.1 (by have := o.2; omega)
theorem sX7_layReached (h : OKm g M) (hN : NM n m M) : Sf (mX7_layReached 135 M) (qM (w2 g)) := by
  unfold mX7_layReached
  exact Sf.m (lo h hN) (fun M3 _ p => sX7_layReached_l6 p.1 (by decide) (by decide))
theorem sX7_lastSteps (h : OKm g M) (hR : Row n m (rd M 136)) : Sf (mX7_lastSteps 135 M) (qM (w2 g)) := by
  unfold mX7_lastSteps
  refine Sf.b (fun M1 e1 => ?_)
  subst e1
  exact Sf.m (sX7_layReached (th_put h) (row_th hR).nm) (fun M5 _ p => Sf.mono (sX7_lastSteps_l13 p (by decide) (by decide) (by decide)) (fun q hq => hq.1))
theorem sX7_mostBends (h : OKm g M) (hR : Row n m (rd M 136)) : Sf (mX7_mostBends 135 M) (qM (w2 g)) := by
  unfold mX7_mostBends
  refine Sf.b (fun M1 e1 => ?_)
  subst e1
  exact Sf.m (sX7_layReached (th_put h) (row_th hR).nm) (fun M5 _ p => Sf.mono (sX7_mostBends_l13 p (by decide) (by decide) (by decide)) (fun q hq => hq.1))
/-! corner, doubles -/
theorem sX7_corner_no {x1 x2 x3 x4 y1 y2 : Int32} (h : OKm g M) (hy : y1 = 0 ∨ y2 = 0) : Sf (mX7_corner_b45 135 x1 x2 x3 x4 y1 y2 M) (qM g) := by
  unfold mX7_corner_b45
  refine Sf.m (sX7_good_ h) (fun M11 r10 p => Sf.i (fun _ => Sf.ok p.1) (fun c => ?_))
  have q := p.2.2.resolve_left (i_ne c)
  rcases hy with rfl | rfl
  · exact absurd rfl q.1
  · exact absurd rfl q.2
theorem sX7_corner {x1 x2 x3 x4 : Int32} (h : OKm g M) : Sf (mX7_corner 135 x1 x2 x3 x4 M) (qM g) := by
  have b22 : ∀ y1 : Int32, (y1 = 0 ∨ (0 ≤ x1.toInt ∧ x1.toInt ≤ 7) ∧ (0 ≤ x3.toInt ∧ x3.toInt ≤ 8)) → Sf (mX7_corner_b22 135 x1 x2 x3 x4 y1 M) (qM g) := by
    intro y1 hy
    unfold mX7_corner_b22 mX7_corner_b44
    refine Sf.c sX7_isSide (fun r6 p6 => Sf.i (fun _ => sX7_corner_no h (Or.inr rfl)) (fun c6 => ?_))
    have hs := p6.2.resolve_left (i_ne c6)
    refine Sf.c (sX7_between (Int32.toInt_toInt64 _) (b := 0) (by decide) (c := 1) (by decide)) (fun r21 _ => Sf.i (fun _ => sX7_corner_no h (Or.inr rfl)) (fun _ => ?_))
    rcases hy with rfl | ⟨h1, h3⟩
    · exact sX7_corner_no h (Or.inl rfl)
    · unfold mX7_corner_b45
      refine Sf.m (sX7_good_ h) (fun M11 r10 p => Sf.i (fun _ => Sf.ok p.1) (fun _ => Sf.k (by decide) ?_))
      have h11 : OKm g M11 := p.1
      have bm : (0 : Int) ≤ (rd M11 (135 + 1) ((52 : Int32)).toNatClampNeg).toInt ∧ (rd M11 (135 + 1) ((52 : Int32)).toNatClampNeg).toInt ≤ 255 := h11.std 136 52
      exact Sf.m (sX7_laySheet h11 h1 hs bm) (fun M16 _ p16 => Sf.i (fun _ => Sf.k (ok_in h3.1 (by omega)) (Sf.ok p16)) (fun _ => Sf.k (ok_in h3.1 (by omega)) (Sf.ok p16)))
  unfold mX7_corner mX7_corner_b21
  refine Sf.c (sX7_isBend h) (fun r2 p2 => Sf.i (fun _ => b22 0 (Or.inl rfl)) (fun c2 => Sf.c (sX7_isLeg h) (fun r25 p25 => Sf.i (fun _ => b22 0 (Or.inl rfl)) (fun c25 => b22 1 (Or.inr ⟨?_, ?_⟩)))))
  · have := p2.2.resolve_left (i_ne c2); omega
  · have := p25.2.resolve_left (i_ne c25); omega
theorem sX7_deductionNow : Sf (mX7_deductionNow 135 M) (Mg 1100) := by
  unfold mX7_deductionNow
  refine Sf.k (by decide) (Sf.b (fun x1 e1 => Sf.k (by decide) (Sf.b (fun x3 e3 => Sf.k (by decide) (Sf.b (fun x5 e5 => ?_))))))
  have m1 : Mg 1056 x1 := by rw [e1]; exact mg_i _
  have m3 : Mg 1056 x3 := by rw [e3]; exact mg_i _
  have m5 : Mg 1056 x5 := by rw [e5]; exact mg_i _
  have a0 := m3.add m1 (K' := 1058) (by decide) (by decide)
  have a1 := mg_2.mul a0 (K := 1061) (by decide) (by decide) (by decide)
  have a2 := m5.div (K' := 1051) mg_100b (mg_100.up (by decide)) (by decide) (by decide) (by decide)
  have a3 := a2.mul m1 (K := 1085) (by decide) (by decide) (by decide)
  have a4 := (m3.up (K' := 1085) (by decide)).add a3 (K' := 1087) (by decide) (by decide)
  have a5 := mg_pi.mul a4 (K := 1089) (by decide) (by decide) (by decide)
  have a6 := (a1.up (K' := 1089) (by decide)).sub a5 (K' := 1091) (by decide) (by decide)
  refine Sf.k (n64_of a0 (by decide)) (Sf.k (n64_of a1 (by decide)) (Sf.k (n64_of a2 (by decide)) (Sf.k (n64_of a3 (by decide)) (Sf.k (n64_of a4 (by decide)) (Sf.k (n64_of a5 (by decide)) (Sf.k (n64_of a6 (by decide)) (Sf.ok ?_)))))))
  exact a6.up (by decide)
theorem sX7_deduction (h : OKm g M) : Sf (mX7_deduction 135 M) (qM g) := by
  unfold mX7_deduction
  exact Sf.b (fun M1 e1 => Sf.c sX7_deductionNow (fun r4 _ => Sf.ok (by show OKm g M1; rw [e1]; exact th_put h)))
theorem sX7_flatLength (h : OKm g M) : Sf (mX7_flatLength 135 M) (qM g) := by
  unfold mX7_flatLength
  refine Sf.b (fun M1 e1 => ?_)
  have h1 : OKm g M1 := by rw [e1]; exact th_put h
  have b : (0 : Int) ≤ (rd M1 (135 + 1) ((1 : Int32)).toNatClampNeg).toInt ∧ (rd M1 (135 + 1) ((1 : Int32)).toNatClampNeg).toInt ≤ 9 := h1.std 136 1
  refine Sf.k (by decide) (Sf.i (fun _ => Sf.ok h1) (fun _ => Sf.k (by decide) (Sf.c (sX7_sumOfLegs h1 b) (fun r7 _ => Sf.k (by decide) (Sf.c sX7_deductionNow (fun r11 h11 => ?_))))))
  have a1 := (mg_i (rd M1 (135 + 1) ((0 : Int32)).toNatClampNeg)).mul h11 (K := 1134) (by decide) (by decide) (by decide)
  have a2 := ((mg_i r7).up (K' := 1134) (by decide)).sub a1 (K' := 1136) (by decide) (by decide)
  exact Sf.k (n64_of a1 (by decide)) (Sf.k (n64_of a2 (by decide)) (Sf.ok h1))
theorem sX7_linePlace {x1 : Int32} (h : OKm g M) : Sf (mX7_linePlace 135 x1 M) (qM g) := by
  unfold mX7_linePlace
  refine Sf.c (sX7_isBend h) (fun r2 p2 => Sf.m (sX7_good h p2.1) (fun M6 r5 p => Sf.i (fun _ => Sf.ok p.1) (fun c => ?_)))
  have hb := p2.2.resolve_left (p.2.2.resolve_left (i_ne c))
  have h6 : OKm g M6 := p.1
  have n1 : ((1 : Int32)).toInt = 1 := rfl
  have e := i_add (a := x1) (b := 1) (by omega) (by omega)
  have a0 := (mg_i x1).add (mg_half.up (K' := 1056) (by decide)) (K' := 1058) (by decide) (by decide)
  refine Sf.c (sX7_sumOfLegs h6 (by omega)) (fun r9 _ => Sf.k (n64_of a0 (by decide)) (Sf.c sX7_deductionNow (fun r13 h13 => ?_)))
  have a1 := a0.mul h13 (K := 1136) (by decide) (by decide) (by decide)
  have a2 := ((mg_i r9).up (K' := 1136) (by decide)).sub a1 (K' := 1138) (by decide) (by decide)
  exact Sf.k (n64_of a1 (by decide)) (Sf.k (n64_of a2 (by decide)) (Sf.ok h6))
theorem sX7_ratioNow (h : OKm g M) : Sf (mX7_ratioNow 135 M) (Mg 1070) := by
  unfold mX7_ratioNow
  have b : (1 : Int) ≤ (rd M (135 + 1) ((36 : Int32)).toNatClampNeg).toInt ∧ (rd M (135 + 1) ((36 : Int32)).toNatClampNeg).toInt ≤ 60 := h.std 136 36
  have a1 := mg_10.mul (mg_i (rd M (135 + 1) ((37 : Int32)).toNatClampNeg)) (K := 1061) (by decide) (by decide) (by decide)
  have a2 := a1.div (K' := 1062) (Mg.big (v := rd M (135 + 1) ((36 : Int32)).toNatClampNeg) (by omega)) ((mg_i _).up (by decide)) (by decide) (by decide) (by decide)
  exact Sf.k (by decide) (Sf.k (n64_of a1 (by decide)) (Sf.k (by decide) (Sf.k (n64_of a2 (by decide)) (Sf.ok (a2.up (by decide))))))
theorem sX7_ratio (h : OKm g M) : Sf (mX7_ratio 135 M) (qM g) := by
  unfold mX7_ratio
  refine Sf.b (fun M1 e1 => ?_)
  have h1 : OKm g M1 := by rw [e1]; exact th_put h
  exact Sf.c (sX7_ratioNow h1) (fun r4 _ => Sf.ok h1)
/-! spring-back -/
theorem bk_ix {x : Int32} (h : 0 ≤ x.toInt ∧ x.toInt ≤ 7) : ((20 : Int32) + (2 : Int32) * x).toInt = 20 + 2 * x.toInt ∧ (((20 : Int32) + (2 : Int32) * x) + (1 : Int32)).toInt = 21 + 2 * x.toInt := by
  have n20 : ((20 : Int32)).toInt = 20 := rfl
  have n1 : ((1 : Int32)).toInt = 1 := rfl
  have e1 := i_mulc (a := (2 : Int32)) (b := x) (c := 2) rfl (by omega) (by omega)
  have e2 := i_add (a := (20 : Int32)) (b := (2 : Int32) * x) (by omega) (by omega)
  have e3 := i_add (a := (20 : Int32) + (2 : Int32) * x) (b := (1 : Int32)) (by omega) (by omega)
  omega
theorem sX7_ratioOf {x : Int32} (h : 0 ≤ x.toInt ∧ x.toInt ≤ 7) : Sf (mX7_ratioOf 135 x M) (fun r => r = FP.i2d (rd M 136 (20 + 2 * x.toInt.toNat))) := by
  have e := (bk_ix h).1
  unfold mX7_ratioOf
  refine Sf.k (ok_in (by omega) (by omega)) (Sf.ok ?_)
  show FP.i2d (rd M 136 _) = _
  rw [i_clamp, e]
  congr 2
  omega
theorem sX7_angleOf {x : Int32} (h : 0 ≤ x.toInt ∧ x.toInt ≤ 7) : Sf (mX7_angleOf 135 x M) (Mg 1056) := by
  have e := (bk_ix h).2
  unfold mX7_angleOf
  exact Sf.k (ok_in (by omega) (by omega)) (Sf.ok (mg_i _))
theorem bk_box : ∀ j, j < 8 → stdM 136 (20 + 2 * j) = (0, 999) := by decide
theorem sX7_springBy_l (h : OKm g M) {x1 : UInt64} (h1 : Mg 1070 x1) {n : Nat} (hn : n ≤ 8) (hlast : Op.cmpValue (FP.dcmp x1 (FP.i2d (rd M 136 (20 + 2 * (n - 1))))) CmpOp.l ≤ 0) : ∀ (fuel k : Nat), 1 ≤ k → k < n → ¬ (Op.cmpValue (FP.dcmp x1 (FP.i2d (rd M 136 (20 + 2 * (k - 1))))) CmpOp.l ≤ 0) → n - k < fuel → Sf (mX7_springBy_l53 135 M fuel x1 (Int32.ofNat k)) (Mg 1120) := by
  intro fuel
  induction fuel with
  | zero => intro k _ _ _ h; exfalso; omega
  | succ fuel IH =>
    intro k hk hkn hb hf
    show Sf (mX7_springBy_b53 135 M (mX7_springBy_l53 135 M fuel) x1 (Int32.ofNat k)) _
    unfold mX7_springBy_b53
    have tk : (Int32.ofNat k).toInt = (k : Int) := t_of (by omega)
    have n1 : ((1 : Int32)).toInt = 1 := rfl
    have ek : (Int32.ofNat k - (1 : Int32)).toInt = (k : Int) - 1 := by rw [i_sub (by omega) (by omega), tk, n1]
    have hk1 : 0 ≤ (Int32.ofNat k).toInt ∧ (Int32.ofNat k).toInt ≤ 7 := by omega
    have hk2 : 0 ≤ (Int32.ofNat k - (1 : Int32)).toInt ∧ (Int32.ofNat k - (1 : Int32)).toInt ≤ 7 := by omega
    refine Sf.c (sX7_ratioOf hk1) (fun r13 e13 => Sf.i (fun c => ?_) (fun c => ?_))
    · rw [show (Int32.ofNat k).toInt.toNat = k by omega] at e13
      refine Sf.c (sX7_angleOf hk2) (fun r17 m17 => Sf.c (sX7_angleOf hk1) (fun r20 m20 => Sf.c (sX7_angleOf hk2) (fun r23 m23 => ?_)))
      have a1 := m20.sub m23 (K' := 1058) (by decide) (by decide)
      refine Sf.k (n64_of a1 (by decide)) (Sf.c (sX7_ratioOf hk2) (fun r27 e27 => ?_))
      have m27 : Mg 1056 r27 := by rw [e27]; exact mg_i _
      have a2 := h1.sub (m27.up (K' := 1070) (by decide)) (K' := 1072) (by decide) (by decide)
      have a3 := a1.mul a2 (K := 1108) (by decide) (by decide) (by decide)
      refine Sf.k (n64_of a2 (by decide)) (Sf.k (n64_of a3 (by decide)) (Sf.c (sX7_ratioOf hk1) (fun r32 e32 => Sf.c (sX7_ratioOf hk2) (fun r35 e35 => ?_))))
      rw [show (Int32.ofNat k - (1 : Int32)).toInt.toNat = k - 1 by omega] at e35
      rw [show (Int32.ofNat k).toInt.toNat = k by omega] at e32
      have ba : (0 : Int) ≤ (rd M 136 (20 + 2 * k)).toInt ∧ (rd M 136 (20 + 2 * k)).toInt ≤ 999 := h.at (bk_box k (by omega))
      have bb : (0 : Int) ≤ (rd M 136 (20 + 2 * (k - 1))).toInt ∧ (rd M 136 (20 + 2 * (k - 1))).toInt ≤ 999 := h.at (bk_box (k - 1) (by omega))
      have hne : (rd M 136 (20 + 2 * k)).toInt ≠ (rd M 136 (20 + 2 * (k - 1))).toInt := by
        intro e
        have e2 : rd M 136 (20 + 2 * k) = rd M 136 (20 + 2 * (k - 1)) := i_eq.mpr e
        rw [e13, e2] at c
        exact hb c
      have ed : FP.dsub r32 r35 = FP.i2d (rd M 136 (20 + 2 * k) - rd M 136 (20 + 2 * (k - 1))) := by rw [e32, e35]; exact d_sub (by omega) (by omega) hne
      rw [ed]
      have ev := i_sub (a := rd M 136 (20 + 2 * k)) (b := rd M 136 (20 + 2 * (k - 1))) (by omega) (by omega)
      have a4 := a3.div (K' := 1109) (Mg.big (v := rd M 136 (20 + 2 * k) - rd M 136 (20 + 2 * (k - 1))) (by omega)) ((mg_i _).up (by decide)) (by decide) (by decide) (by decide)
      have a5 := (m17.up (K' := 1109) (by decide)).add a4 (K' := 1111) (by decide) (by decide)
      exact Sf.k (n64_of (mg_i _) (by decide)) (Sf.k (n64_of a4 (by decide)) (Sf.k (n64_of a5 (by decide)) (Sf.ok (a5.up (by decide)))))
    · rw [e13, show (Int32.ofNat k).toInt.toNat = k by omega] at c
      refine Sf.b (fun y ey => ?_)
      have e : y = Int32.ofNat (k + 1) := by rw [ey]; exact (Int32.ofNat_add k 1).symm
      rw [e]
      have hkn2 : k + 1 < n := by
        rcases Nat.lt_or_ge (k + 1) n with q | q
        · exact q
        · have : k = n - 1 := by omega
          rw [this] at c
          exact absurd hlast c
      exact IH (k + 1) (by omega) hkn2 (by rw [show k + 1 - 1 = k by omega]; exact c) (by omega)
theorem cmp_gl {x y : UInt64} (hx : Mg 1070 x) (hy : Mg 1070 y) : Op.cmpValue (FP.dcmp x y) CmpOp.g = Op.cmpValue (FP.dcmp x y) CmpOp.l := by
  obtain ⟨o, e⟩ := Mg.some hx hy (by decide)
  rw [e]; cases o <;> rfl
theorem sX7_springBy (h : OKm g M) {x1 : UInt64} (h1 : Mg 1070 x1) : Sf (mX7_springBy 135 x1 M) (Mg 1120) := by
  unfold mX7_springBy
  have b : (0 : Int) ≤ (rd M (135 + 1) ((19 : Int32)).toNatClampNeg).toInt ∧ (rd M (135 + 1) ((19 : Int32)).toNatClampNeg).toInt ≤ 8 := h.std 136 19
  refine Sf.k (by decide) (Sf.b (fun x3 e3 => Sf.i (fun _ => Sf.ok (mg_0.up (by decide))) (fun c0 => ?_)))
  have c0 := i_ne c0
  rw [show ((0 : Int32)).toInt = 0 from rfl] at c0
  have b3 : 1 ≤ x3.toInt ∧ x3.toInt ≤ 8 := by have := congrArg Int32.toInt e3; omega
  have n1 : ((1 : Int32)).toInt = 1 := rfl
  have e31 : (x3 - (1 : Int32)).toInt = x3.toInt - 1 := by rw [i_sub (by omega) (by omega), n1]
  refine Sf.c (sX7_ratioOf (x := 0) (by decide)) (fun r5 e5 => Sf.i (fun c1 => ?_) (fun _ => Sf.c (sX7_angleOf (x := 0) (by decide)) (fun r45 m45 => Sf.ok (m45.up (by decide)))))
  refine Sf.c (sX7_ratioOf (x := x3 - (1 : Int32)) (by omega)) (fun r9 e9 => Sf.i (fun c2 => ?_) (fun _ => Sf.c (sX7_angleOf (x := x3 - (1 : Int32)) (by omega)) (fun r42 m42 => Sf.ok (m42.up (by decide)))))
  have e5 : r5 = FP.i2d (rd M 136 (20 + 2 * 0)) := e5
  rw [show (x3 - (1 : Int32)).toInt.toNat = x3.toInt.toNat - 1 by omega] at e9
  have c2 := i_lt.mp c2
  rw [e9] at c2
  rw [e5, cmp_gl h1 ((mg_i _).up (by decide))] at c1
  have c1 := i_lt.mp c1
  have hn2 : 1 < x3.toInt.toNat := by
    rcases Nat.lt_or_ge 1 x3.toInt.toNat with q | q
    · exact q
    · exfalso
      have : x3.toInt.toNat = 1 := by omega
      rw [this] at c2
      have c2 : (Op.cmpValue (FP.dcmp x1 (FP.i2d (rd M 136 (20 + 2 * 0)))) CmpOp.l).toInt < ((0 : Int32)).toInt := c2
      omega
  refine sX7_springBy_l h h1 (n := x3.toInt.toNat) (by omega) (i_le.mpr (by omega)) 5000 1 (by omega) hn2 (fun q => ?_) (by omega)
  have q : (Op.cmpValue (FP.dcmp x1 (FP.i2d (rd M 136 (20 + 2 * 0)))) CmpOp.l).toInt ≤ ((0 : Int32)).toInt := i_le.mp q
  omega
theorem sX7_springBack (h : OKm g M) : Sf (mX7_springBack 135 M) (qM g) := by
  unfold mX7_springBack
  refine Sf.b (fun M1 e1 => ?_)
  have h1 : OKm g M1 := by rw [e1]; exact th_put h
  exact Sf.c (sX7_ratioNow h1) (fun r4 m4 => Sf.c (sX7_springBy h1 m4) (fun r7 _ => Sf.ok h1))
theorem sX7_swingAngle (h : OKm g M) : Sf (mX7_swingAngle 135 M) (qM g) := by
  unfold mX7_swingAngle
  refine Sf.b (fun M1 e1 => ?_)
  have h1 : OKm g M1 := by rw [e1]; exact th_put h
  have m900 : Mg 1120 (4651127699538968576 : UInt64) := by unfold Mg; decide
  exact Sf.c (sX7_ratioNow h1) (fun r4 m4 => Sf.c (sX7_springBy h1 m4) (fun r7 m7 => Sf.k (n64_of (m900.add m7 (K' := 1122) (by decide) (by decide)) (by decide)) (Sf.ok h1)))
theorem sX7_springBackFor {x1 : UInt64} (h : OKm g M) (h1 : Mg 1070 x1) : Sf (mX7_springBackFor 135 x1 M) (qM g) := by
  have b20 : ∀ y : Int32, 0 ≤ y.toInt ∧ y.toInt ≤ 1 → Sf (mX7_springBackFor_b20 135 x1 y M) (qM g) := by
    intro y hy
    unfold mX7_springBackFor_b20
    exact Sf.m (sX7_good h hy) (fun M4 r3 p => Sf.i (fun _ => Sf.ok p.1) (fun _ => Sf.c (sX7_springBy (show OKm g M4 from p.1) h1) (fun r7 _ => Sf.ok p.1)))
  unfold mX7_springBackFor mX7_springBackFor_b19
  exact Sf.i (fun _ => b20 0 (by decide)) (fun _ => Sf.i (fun _ => b20 0 (by decide)) (fun _ => b20 1 (by decide)))
end MF
