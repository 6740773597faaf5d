/-! the reference's rows, orders, plans -/
def Row (n m : Nat) (f : Nat → Int32) : Prop := f 0 = Int32.ofNat n ∧ n < 9 ∧ f 52 = Int32.ofNat m ∧ m < 2 ^ n ∧ 1 ≤ (f 36).toInt ∧ ∃ k : Nat, f 53 = Int32.ofNat k ∧ k + cntz m n ≤ n ∧ ∀ j, k = j + 1 → ∃ b, b < n ∧ f (54 + 4 * j) = Int32.ofNat b ∧ m.testBit b = true
section PE
variable {g : Gm} {M M' : Mem} {n m a c l : Nat}
theorem Row.nm (h : Row n m (rd M 136)) : NM n m M := ⟨h.1, h.2.1, h.2.2.1, h.2.2.2.1⟩
theorem Row.of {f f' : Nat → Int32} (h : Row n m f) (e : ∀ j, f' j = f j) : Row n m f' := by
  have : f' = f := funext e
  rw [this]; exact h
/-- what stays where tables may be written -/
def Keep2 (M M' : Mem) : Prop := ∀ k j, ¬ W1 k j → ¬ (145 ≤ k ∧ k ≤ 150) → rd M' k j = rd M k j
theorem Keep.k2 (h : Keep M M') : Keep2 M M' := fun k j h1 _ => h.1 k j h1
theorem Keep2.trans {M'' : Mem} (h : Keep2 M M') (h' : Keep2 M' M'') : Keep2 M M'' := fun k j h1 h2 => (h' k j h1 h2).trans (h k j h1 h2)
theorem okm_kept2 (h : OKm (w2 (gAll M)) M') : Keep2 M M' := by
  intro k j hw h5
  have h2 := h.2.1 k j
  have hw2 : ¬ ((k = 135 ∧ (j = 5 ∨ j = 21 ∨ j = 22)) ∨ (141 ≤ k ∧ k ≤ 144)) := hw
  unfold bxm at h2
  rw [if_neg hw2] at h2
  have h3 : (if 145 ≤ k ∧ k ≤ 150 then stdM k j else (gAll M).1 k j).1 ≤ (rd M' k j).toInt ∧ (rd M' k j).toInt ≤ (if 145 ≤ k ∧ k ≤ 150 then stdM k j else (gAll M).1 k j).2 := h2
  rw [if_neg h5] at h3
  have h4 : (rd M k j).toInt ≤ (rd M' k j).toInt ∧ (rd M' k j).toInt ≤ (rd M k j).toInt := h3
  exact i_eq.mpr (by omega)
theorem okm_of_kept2 (h : OKm (w2 g) M) (h' : OKm (w2 (gAll M)) M') : OKm (w2 g) M' := by
  have hk := okm_kept2 h'
  refine ⟨h.1, fun k j => ?_, fun _ _ => trivial⟩
  have h2 := h.2.1 k j
  unfold bxm at h2 ⊢
  by_cases c : (k = 135 ∧ (j = 5 ∨ j = 21 ∨ j = 22)) ∨ (141 ≤ k ∧ k ≤ 144)
  · rw [if_pos c]; exact i_rng _
  · rw [if_neg c] at h2 ⊢
    by_cases c5 : 145 ≤ k ∧ k ≤ 150
    · show (if 145 ≤ k ∧ k ≤ 150 then stdM k j else g.1 k j).1 ≤ _ ∧ _ ≤ (if 145 ≤ k ∧ k ≤ 150 then stdM k j else g.1 k j).2
      rw [if_pos c5]; exact h'.std k j
    · rw [hk k j c c5]; exact h2
theorem fr2 {ρ : Type} {x : Option (Mem × ρ)} {R : Mem × ρ → Prop} (h : OKm g M) (hx : ∀ g', OKm g' M → Sf x (fun q => OKm (w2 g') q.1 ∧ R q)) : Sf x (fun q => OKm (w2 g) q.1 ∧ Keep2 M q.1 ∧ R q) := by
  obtain ⟨y, e, h1, h2⟩ := hx (gAll M) h.all
  exact ⟨y, e, okm_of_kept2 h.w2 h1, okm_kept2 h1, h2⟩
theorem NM.keep2 (h : NM n m M) (hk : Keep2 M M') : NM n m M' := by
  refine ⟨(hk 136 0 ?_ ?_).trans h.1, h.2.1, (hk 136 52 ?_ ?_).trans h.2.2.1, h.2.2.2⟩ <;> first | (unfold W1; omega) | omega
theorem Row.keep2 (h : Row n m (rd M 136)) (hk : Keep2 M M') : Row n m (rd M' 136) := h.of (fun j => hk 136 j (by unfold W1; omega) (by omega))
theorem pl_isOrder (hN : NM n m M) : Sf (mX7_isOrder 135 M) (fun r => zor r (0 < mn M m)) := by
  have hp := z_pow n hN.2.1
  have hm := hN.2.2.2
  unfold mX7_isOrder
  show Sf (chk (okb (52 : Int32) 86) (chk (okb (rd M 136 52) 256) (ite2 ((lg_cmp (rl M 147 ((rd M 136 52)).toNatClampNeg) (0 : Int64)) ≤ 0) (some (0 : Int32)) (some (1 : Int32))))) _
  rw [hN.2.2.1, c_of (by omega)]
  refine Sf.k (by decide) (Sf.k (ok_in (by rw [t_of (by omega)]; omega) (by rw [t_of (by omega)]; omega)) (Sf.i (fun _ => Sf.ok ⟨by decide, Or.inl rfl⟩) (fun c => Sf.ok ⟨by decide, Or.inr ?_⟩)))
  have c := i_nle c
  exact b_cmp.2.mp (i_lt.mpr c)
theorem lg_pos {x : Int64} : ¬ (lg_cmp x 0 ≤ 0) ↔ 0 < x.toInt := by
  constructor
  · intro c; exact b_cmp.2.mp (i_lt.mpr (i_nle c))
  · intro c h
    have h1 := i_lt.mp (b_cmp.2.mpr (show (0 : Int64).toInt < x.toInt from c))
    have h2 := i_le.mp h
    omega
theorem Ald.keep (h : Ald n m M 0) (hP : Pl g n m M) (hk : Keep M M') : Ald n m M' 0 := by
  intro b h1 h2 h3 l hv
  have r : ∀ k, k = 136 ∨ k = 145 ∨ k = 146 ∨ k = 148 → ∀ j, rd M' k j = rd M k j := fun k hk' j => hk.1 k j (by unfold W1; omega)
  rw [r 148 (by omega)]
  exact (h b h1 h2 h3 l hv).of (hP.2.2 b h1 h2 h3) h2 hP.2.1.2.1 (r 145 (by omega)) (hk.2 147) (cst_same (r 136 (by omega)) (r 146 (by omega))) (fun b' c' _ _ => r 148 (by omega) _)
/-- the best step is found -/
theorem pl_best_l (hP : Pl g n m M) (hA : Ald n m M 0) (ha : a < 2 ^ n) (hb : a &&& m = m) (hl : VL n a l) {c0 : Nat} (h0 : c0 < 2 * n) (hq : ¬ rd M 145 (16 * a + c0) = 0) (hm : 0 < mn M (a ||| 2 ^ (c0 / 2))) {v : Int32} (hv : cstO M (Int32.ofNat a) (Int32.ofNat l) (Int32.ofNat c0) = some v) (hv2 : v.toInt + (rd M 148 (17 * (a ||| 2 ^ (c0 / 2)) + c0)).toInt = (rd M 148 (17 * a + l)).toInt) : ∀ (fuel c : Nat), c ≤ c0 → c0 - c < fuel → Sf (mX7_bestStep_l2 135 M fuel (Int32.ofNat a) (Int32.ofNat l) (Int32.ofNat c)) (fun r => ∃ c, c < 2 * n ∧ r = Int32.ofNat c ∧ ¬ rd M 145 (16 * a + c) = 0 ∧ 0 < mn M (a ||| 2 ^ (c / 2))) := by
  intro fuel
  induction fuel with
  | zero => intro c _ h; exfalso; omega
  | succ fuel IH =>
    intro c hc hf
    have hN := hP.2.1
    have hn := hN.2.1
    have hp := z_pow n hn
    have hl16 : l ≤ 16 := by rcases hl with e | ⟨e, _⟩ <;> omega
    have G := hP.2.2 a (by omega) ha hb
    show Sf (mX7_bestStep_b2 135 M (mX7_bestStep_l2 135 M fuel) (Int32.ofNat a) (Int32.ofNat l) (Int32.ofNat c)) _
    unfold mX7_bestStep_b2
    have nx : c ≠ c0 → Sf (mX7_bestStep_b125 135 M (mX7_bestStep_l2 135 M fuel) (Int32.ofNat a) (Int32.ofNat l) (Int32.ofNat c)) (fun r => ∃ c, c < 2 * n ∧ r = Int32.ofNat c ∧ ¬ rd M 145 (16 * a + c) = 0 ∧ 0 < mn M (a ||| 2 ^ (c / 2))) := by
      intro hne
      unfold mX7_bestStep_b125
      refine Sf.b (fun x ex => ?_)
      have e : x = Int32.ofNat (c + 1) := by rw [ex]; exact (Int32.ofNat_add c 1).symm
      rw [e]
      exact IH (c + 1) (by omega) (by omega)
    refine Sf.k (by decide) (Sf.i (fun cc => ?_) (fun cc => Sf.b (fun x4 e4 => ?_)))
    · have cc := i_le.mp cc
      rw [n2_of hN, t_of (by omega)] at cc
      exfalso; omega
    · rw [f_half c (by omega), f_or a (by omega) (c / 2) (by omega)] at e4
      subst e4
      have i16 : okb ((16 : Int32) * Int32.ofNat a + Int32.ofNat c) 4096 = true := ok_in (by rw [ix16 (by omega) (by omega)]; omega) (by rw [ix16 (by omega) (by omega)]; omega)
      refine Sf.k i16 ?_
      rw [ix16c (by omega) (by omega)]
      refine Sf.i (fun q => nx (fun e => hq (by rw [← e]; exact q))) (fun q => ?_)
      have q : ¬ rd M 145 (16 * a + c) = 0 := q
      have ht := G.2.2.1 c (by omega) q
      have hz := z_set n hn a ha (c / 2) (by omega) ht
      rw [c_of (a := a ||| 2 ^ (c / 2)) (by omega)]
      refine Sf.k (ok_in (by rw [t_of (by omega)]; omega) (by rw [t_of (by omega)]; omega)) (Sf.i (fun c1 => nx (fun e => ?_)) (fun c1 => ?_))
      · subst e
        exact lg_pos.mpr hm c1
      · have hmn : 0 < mn M (a ||| 2 ^ (c / 2)) := lg_pos.mp c1
        have b92 : ∀ w : Int32, cstO M (Int32.ofNat a) (Int32.ofNat l) (Int32.ofNat c) = some w → 0 ≤ w.toInt ∧ w.toInt ≤ 297 → Sf (mX7_bestStep_b92 135 M (mX7_bestStep_l2 135 M fuel) (Int32.ofNat a) (Int32.ofNat l) (Int32.ofNat c) (Int32.ofNat (a ||| 2 ^ (c / 2))) w) (fun r => ∃ c, c < 2 * n ∧ r = Int32.ofNat c ∧ ¬ rd M 145 (16 * a + c) = 0 ∧ 0 < mn M (a ||| 2 ^ (c / 2))) := by
          intro w hw hw2
          unfold mX7_bestStep_b92
          have i8 : okb ((17 : Int32) * Int32.ofNat (a ||| 2 ^ (c / 2)) + Int32.ofNat c) 4352 = true := ok_in (by rw [ix17 (by omega) (by omega)]; omega) (by rw [ix17 (by omega) (by omega)]; omega)
          have i9 : okb ((17 : Int32) * Int32.ofNat a + Int32.ofNat l) 4352 = true := ok_in (by rw [ix17 (by omega) (by omega)]; omega) (by rw [ix17 (by omega) (by omega)]; omega)
          refine Sf.k i8 (Sf.k i9 (Sf.i (fun _ => Sf.ok ⟨c, by omega, rfl, q, hmn⟩) (fun c2 => nx (fun e => c2 ?_))))
          subst e
          rw [ix17c (by omega) (by omega), ix17c (by omega) (by omega)]
          rw [hv] at hw
          cases hw
          have hz8 := (z_full n hn (a ||| 2 ^ (c / 2)) hz.2.2.1).1
          have hL := ((hA (a ||| 2 ^ (c / 2)) (by omega) hz.2.2.1 (z_sup hb) c (Or.inr ⟨by omega, hz.2.2.2⟩)).1 hmn).1
          have es := i_add (a := v) (b := rd M 148 (17 * (a ||| 2 ^ (c / 2)) + c)) (by omega) (by omega)
          exact i_eq.mpr (es.trans hv2)
        obtain ⟨w, ew, hw⟩ := cst_ok (a := a) (l := l) (c := c) hP.1 (by omega) hl16 (by omega)
        have ew0 := ew
        unfold cstO at ew
        refine Sf.i (fun e => ?_) (fun e => ?_)
        · have e2 := ite_t e ew
          cases e2
          exact b92 0 ew0 hw
        · have e2 := ite_f e ew
          obtain ⟨r22, e22, e3⟩ := cap_s e2
          rw [e22]
          show Sf (chk (okb ((16 : Int32) * Int32.ofNat a + Int32.ofNat c) 4096) _) _
          refine Sf.k i16 ?_
          rw [ix16c (by omega) (by omega)] at e3
          rw [e3]
          exact b92 w ew0 hw
theorem pl_best (hP : Pl g n m M) (hA : Ald n m M 0) (ha : a < 2 ^ n) (hb : a &&& m = m) (hl : VL n a l) (h0 : 0 < mn M a) (hf : a ≠ 2 ^ n - 1) : Sf (mX7_bestStep 135 (Int32.ofNat a) (Int32.ofNat l) M) (fun r => ∃ c, c < 2 * n ∧ r = Int32.ofNat c ∧ ¬ rd M 145 (16 * a + c) = 0 ∧ 0 < mn M (a ||| 2 ^ (c / 2))) := by
  have hn := hP.2.1.2.1
  obtain ⟨c, hc, q1, q2, v, q3, q4⟩ := ((hA a (by omega) ha hb l hl).1 h0).2 hf
  unfold mX7_bestStep
  exact pl_best_l hP hA ha hb hl hc q1 q2 q3 q4 5000 0 (by omega) (by omega)
/-- how many bends aren't made -/
theorem pl_unmade (h : OKm g M) (hN : NM n m M) : Sf (mX7_unmade 135 M) (fun r => r.toInt = (cntz m n : Int)) := by
  have hn := hN.2.1
  have hp := z_pow n hn
  have hm := hN.2.2.2
  have key : ∀ (fuel b : Nat) (x : Int32), x.toInt = (cntz m b : Int) → b ≤ n → n - b < fuel → Sf (mX7_unmade_l4 135 M fuel x (Int32.ofNat b)) (fun r => r.toInt = (cntz m n : Int)) := by
    intro fuel
    induction fuel with
    | zero => intro b x _ _ h; exfalso; omega
    | succ fuel IH =>
      intro b x hx hb hf
      have hcb : ∀ b, cntz m b ≤ b := by
        intro b
        induction b with
        | zero => exact Nat.le_refl _
        | succ b ih => show cntz m b + _ ≤ _; split <;> omega
      have := hcb b
      show Sf (mX7_unmade_b4 135 M (mX7_unmade_l4 135 M fuel) x (Int32.ofNat b)) _
      unfold mX7_unmade_b4
      show Sf (chk (okb (0 : Int32) 86) (ite2 (rd M 136 0 ≤ Int32.ofNat b) (some x) (chk (okb (52 : Int32) 86) (cap (mX7_has (rd M 136 52) (Int32.ofNat b) M) (fun r5 => ite2 (r5 = 0) (mX7_unmade_b34 135 M (mX7_unmade_l4 135 M fuel) (Int32.ofNat b) x (1 : Int32)) (mX7_unmade_b34 135 M (mX7_unmade_l4 135 M fuel) (Int32.ofNat b) x (0 : Int32))))))) _
      rw [hN.1, hN.2.2.1]
      refine Sf.k (by decide) (Sf.i (fun c => ?_) (fun c => Sf.k (by decide) ?_))
      · have c := i_le.mp c
        rw [t_of (by omega), t_of (by omega)] at c
        have : b = n := by omega
        subst this
        exact Sf.ok hx
      · have c := i_nle c
        rw [t_of (by omega), t_of (by omega)] at c
        have nx : ∀ y : Int32, y.toInt = (if m.testBit b then 0 else 1) → Sf (mX7_unmade_b34 135 M (mX7_unmade_l4 135 M fuel) (Int32.ofNat b) x y) (fun r => r.toInt = (cntz m n : Int)) := by
          intro y hy
          unfold mX7_unmade_b34
          refine Sf.b (fun x1 e1 => Sf.b (fun x2 e2 => ?_))
          have e : x2 = Int32.ofNat (b + 1) := by rw [e2]; exact (Int32.ofNat_add b 1).symm
          rw [e]
          refine IH (b + 1) x1 ?_ (by omega) (by omega)
          have hy2 : 0 ≤ y.toInt ∧ y.toInt ≤ 1 := by rw [hy]; split <;> omega
          rw [e1, i_add (by omega) (by omega), hx, hy]
          show _ = ((cntz m b + (if m.testBit b then 0 else 1) : Nat) : Int)
          split <;> omega
        unfold mX7_has
        by_cases t : m.testBit b = true
        · have t2 := (f_has m (by omega) b (by omega)).mpr t
          refine Sf.c (Q := fun r => r = 1) ⟨1, by unfold ite2; rw [if_pos t2], rfl⟩ (fun r er => ?_)
          subst er
          exact Sf.i (fun q => absurd q (by decide)) (fun _ => nx 0 (by rw [if_pos t]; rfl))
        · have t2 := mt (f_has m (by omega) b (by omega)).mp t
          refine Sf.c (Q := fun r => r = 0) ⟨0, by unfold ite2; rw [if_neg t2], rfl⟩ (fun r er => ?_)
          subst er
          exact Sf.i (fun _ => nx 1 (by rw [if_neg t]; rfl)) (fun q => absurd rfl q)
  unfold mX7_unmade
  exact key 5000 0 0 rfl (by omega) (by omega)
theorem pl_last (h : OKm g M) (hR : Row n m (rd M 136)) : Sf (mX7_lastNow 135 M) (fun r => ∃ l, r = Int32.ofNat l ∧ VL n m l) := by
  obtain ⟨h0, hn, h52, hm, _, k, h53, hk, hlast⟩ := hR
  unfold mX7_lastNow
  show Sf (chk (okb (53 : Int32) 86) (ite2 (rd M 136 53 = 0) (some (16 : Int32)) (chk (okb (53 : Int32) 86) (cap (mX7_stepOf 135 (rd M 136 53 - (1 : Int32)) (0 : Int32) M) (fun r5 => chk (okb (53 : Int32) 86) (cap (mX7_stepOf 135 (rd M 136 53 - (1 : Int32)) (1 : Int32) M) (fun r9 => some (((2 : Int32) * r5) + r9)))))))) _
  rw [h53]
  refine Sf.k (by decide) (Sf.i (fun _ => Sf.ok ⟨16, rfl, Or.inl rfl⟩) (fun c => Sf.k (by decide) ?_))
  have hk0 : k ≠ 0 := fun e => c (by rw [e]; rfl)
  obtain ⟨j, rfl⟩ : ∃ j, k = j + 1 := ⟨k - 1, by omega⟩
  obtain ⟨b, hb, e54, ht⟩ := hlast j rfl
  have ej : Int32.ofNat (j + 1) - (1 : Int32) = Int32.ofNat j := by
    apply i_eq.mpr
    rw [i_sub (by rw [t_of (by omega), show ((1 : Int32)).toInt = 1 from rfl]; omega) (by rw [t_of (by omega), show ((1 : Int32)).toInt = 1 from rfl]; omega), t_of (by omega), t_of (by omega), show ((1 : Int32)).toInt = 1 from rfl]
    omega
  rw [ej]
  have tj : (Int32.ofNat j).toInt = (j : Int) := t_of (by omega)
  refine Sf.c (sX7_stepOfx (x1 := Int32.ofNat j) (x2 := 0) (by omega) (by decide)) (fun r5 e5 => Sf.k (by decide) (Sf.c (sX7_stepOf1 (x1 := Int32.ofNat j) h (by omega)) (fun r9 p9 => Sf.ok ?_)))
  have e5' : r5 = Int32.ofNat b := by
    rw [e5, tj, ← e54]
    congr 1
  have t5 : r5.toInt = (b : Int) := by rw [e5', t_of (by omega)]
  obtain ⟨p9a, p9b⟩ := p9
  refine ⟨2 * b + r9.toInt.toNat, ?_, Or.inr ⟨by omega, ?_⟩⟩
  · apply i_eq.mpr
    have e1 := i_mulc (a := (2 : Int32)) (b := r5) (c := 2) rfl (by omega) (by omega)
    rw [i_add (by omega) (by omega), e1, t_of (by omega)]
    omega
  · rw [show (2 * b + r9.toInt.toNat) / 2 = b by omega]; exact ht
theorem pl_plan_l (hP : Pl g n m M) (hA : Ald n m M 0) {x1 : Int32} (hx : x1.toInt < (cntz m n : Int)) : ∀ (fuel k a l : Nat), (k : Int) ≤ x1.toInt + 1 → a < 2 ^ n → a &&& m = m → cntz a n + k = cntz m n → 0 < mn M a → VL n a l → x1.toInt + 1 - k < fuel → Sf (mX7_planned_l57 135 fuel x1 (Int32.ofNat a) (Int32.ofNat l) (Int32.ofNat k) M) (fun q => q.1 = M) := by
  intro fuel
  induction fuel with
  | zero => intro k a l _ _ _ _ _ _ h; exfalso; omega
  | succ fuel IH =>
    intro k a l hk ha hb hz h0 hl hf
    have hn := hP.2.1.2.1
    have hp := z_pow n hn
    have hz8 := (z_full n hn m hP.2.1.2.2.2).1
    show Sf (mX7_planned_b57 135 (mX7_planned_l57 135 fuel) x1 (Int32.ofNat a) (Int32.ofNat l) (Int32.ofNat k) M) _
    unfold mX7_planned_b57
    refine Sf.i (fun _ => Sf.ok rfl) (fun c => ?_)
    have c := i_nlt c
    rw [t_of (by omega)] at c
    have hf2 : a ≠ 2 ^ n - 1 := fun e => by rw [e, (z_full2 n hn).1] at hz; omega
    refine Sf.c (pl_best hP hA ha hb hl h0 hf2) (fun r19 p => ?_)
    obtain ⟨c', hc', rfl, q1, q2⟩ := p
    have G := hP.2.2 a (by omega) ha hb
    have hzs := z_set n hn a ha (c' / 2) (by omega) (G.2.2.1 c' hc' q1)
    refine Sf.b (fun x2 e2 => Sf.b (fun x4 e4 => ?_))
    rw [f_half c' (by omega), f_or a (by omega) (c' / 2) (by omega)] at e2
    have e : x4 = Int32.ofNat (k + 1) := by rw [e4]; exact (Int32.ofNat_add k 1).symm
    rw [e2, e]
    exact IH (k + 1) _ c' (by omega) hzs.2.2.1 (z_sup hb) (by omega) q2 (Or.inr ⟨hc', hzs.2.2.2⟩) (by omega)
theorem sX7_planned {x1 : Int32} (h : OKm g M) (hR : Row n m (rd M 136)) : Sf (mX7_planned 135 x1 M) (qM (w2 g)) := by
  have hm0 := hR.2.2.2.1
  unfold mX7_planned mX7_planned_b32
  have no : ∀ M3 : Mem, OKm (w2 g) M3 → Sf (mX7_planned_b33 135 x1 (0 : Int32) M3) (qM (w2 g)) := by
    intro M3 h3
    unfold mX7_planned_b33
    refine Sf.m (sX7_good h3 (by decide)) (fun M10 r9 p => Sf.i (fun _ => Sf.ok p.1) (fun c => ?_))
    exact absurd (p.2.2.resolve_left (i_ne c)) (by decide)
  refine Sf.m (fr2 (R := fun q => Pl (gAll M) n m q.1 ∧ Ald n m q.1 0) h (fun g' h' => ?_)) (fun M3 _ p => ?_)
  · obtain ⟨y, e, h1, h2⟩ := sX7_layCosts' h' hR.nm
    obtain ⟨y', e', h1', h2'⟩ := sX7_layCosts' h.all hR.nm
    rw [e] at e'
    cases e'
    exact ⟨y, e, h1.1, h1', h2'⟩
  · obtain ⟨h3, k3, P3, A3⟩ := p
    have h3 : OKm (w2 g) M3 := h3
    have k3 : Keep2 M M3 := k3
    have P3 : Pl (gAll M) n m M3 := P3
    have R3 := hR.keep2 k3
    refine Sf.c (pl_isOrder P3.2.1) (fun r5 p5 => Sf.i (fun _ => no M3 h3) (fun c5 => Sf.c (pl_unmade h3 P3.2.1) (fun r24 p24 => ?_)))
    have h0 := p5.2.resolve_left (i_ne c5)
    have hz8 := (z_full n hR.2.1 m hm0).1
    have n1 : ((1 : Int32)).toInt = 1 := rfl
    have e24 := i_sub (a := r24) (b := 1) (by omega) (by omega)
    refine Sf.c (sX7_between (Int32.toInt_toInt64 _) (b := 0) (by decide) (Int32.toInt_toInt64 _)) (fun r27 p27 => Sf.i (fun _ => no M3 h3) (fun c27 => ?_))
    have hx := p27.2.resolve_left (i_ne c27)
    unfold mX7_planned_b33
    refine Sf.m (fr (R := fun q => zor q.2 (¬ ((1 : Int32)).toInt = 0)) h3 (fun g' h' => sX7_good h' (by decide))) (fun M10 r9 p10 => Sf.i (fun _ => Sf.ok p10.1) (fun c => Sf.k (by decide) (Sf.b (fun s0 es => ?_))))
    have k10 : Keep M3 M10 := p10.2.1
    have h10 : OKm (w2 g) M10 := p10.1
    have P10 : Pl (gAll M) n m M10 := P3.keep (P3.1.of_kept k10) k10
    have A10 : Ald n m M10 0 := Ald.keep A3 P3 k10
    have R10 : Row n m (rd M10 136) := R3.keep2 k10.k2
    have es : s0 = Int32.ofNat m := es.trans R10.2.2.1
    subst es
    refine Sf.c (pl_last h10 R10) (fun r15 p15 => ?_)
    obtain ⟨l, rfl, hl⟩ := p15
    have m10 : mn M10 m = mn M3 m := by unfold mn; rw [k10.2]
    refine Sf.mono (pl_plan_l P10 A10 (x1 := x1) (by omega) 5000 0 m l (by omega) hm0 (Nat.and_self m) (by omega) (by rw [m10]; exact h0) hl (by omega)) (fun q hq => ?_)
    show OKm (w2 g) q.1
    rw [hq]; exact h10
end PE
