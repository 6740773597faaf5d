/-! layCosts: the least costs from each set on -/
def cstO (M : Mem) (x1 x2 x5 : Int32) : Option Int32 := ite2 (x2 = (16 : Int32)) (some (0 : Int32)) (cap (mX7_gaugeLast 135 x1 x2 M) (fun r22 => mX7_costBehind 135 (x2 / (2 : Int32)) (x2 - x2 / (2 : Int32) * (2 : Int32)) r22 (x5 / (2 : Int32)) (x5 - x5 / (2 : Int32) * (2 : Int32)) (rd M (135 + 11) ((((16 : Int32) * x1) + x5)).toNatClampNeg) M))
def Ldv (n : Nat) (M : Mem) (b l : Nat) (L : Int32) : Prop := (0 < mn M b → (0 ≤ L.toInt ∧ L.toInt ≤ 297 * (cntz b n : Int)) ∧ (b ≠ 2 ^ n - 1 → ∃ c, c < 2 * n ∧ ¬ rd M 145 (16 * b + c) = 0 ∧ 0 < mn M (b ||| 2 ^ (c / 2)) ∧ ∃ v, cstO M (Int32.ofNat b) (Int32.ofNat l) (Int32.ofNat c) = some v ∧ v.toInt + (rd M 148 (17 * (b ||| 2 ^ (c / 2)) + c)).toInt = L.toInt)) ∧ (¬ 0 < mn M b → L.toInt = 1000000)
/-- a last step that a set may have -/
def VL (n b l : Nat) : Prop := l = 16 ∨ (l < 2 * n ∧ b.testBit (l / 2) = true)
def Ald (n m : Nat) (M : Mem) (a : Nat) : Prop := ∀ b, a ≤ b → b < 2 ^ n → b &&& m = m → ∀ l, VL n b l → Ldv n M b l (rd M 148 (17 * b + l))
section PC
variable {g : Gm} {M M' : Mem} {n m a b c l : Nat}
theorem cst_same (h1 : ∀ j, rd M' (135 + 1) j = rd M (135 + 1) j) (h2 : ∀ j, rd M' (135 + 11) j = rd M (135 + 11) j) (x1 x2 x5 : Int32) : cstO M' x1 x2 x5 = cstO M x1 x2 x5 := by
  unfold cstO mX7_gaugeLast mX7_costBehind mX7_costBehind_b37 mX7_costBehind_b55
  simp only [h1, h2]
theorem cst_ok (h : OKm g M) (ha : a < 256) (hl : l ≤ 16) (hc : c < 16) : Sf (cstO M (Int32.ofNat a) (Int32.ofNat l) (Int32.ofNat c)) (pI 0 297) := by
  unfold cstO
  refine Sf.i (fun _ => Sf.ok (by decide)) (fun e => ?_)
  have hl2 : l < 16 := by
    rcases Nat.lt_or_ge l 16 with q | q
    · exact q
    · exact absurd (by rw [show l = 16 by omega]; rfl) e
  refine Sf.c (sX7_gaugeLast h (by rw [t_of (by omega)]; omega) (by rw [t_of (by omega)]; omega)) (fun r22 _ => ?_)
  rw [f_mod l hl2, f_half l (by omega), f_mod c hc, f_half c (by omega)]
  exact sX7_costBehind h (by rw [t_of (by omega)]; omega) (by rw [t_of (by omega)]; omega) (by rw [t_of (by omega)]; omega) (by rw [t_of (by omega)]; omega)
theorem Ldv.of {L : Int32} (h : Ldv n M b l L) (G : Gd n M b) (hb : b < 2 ^ n) (hn : n < 9) (e1 : ∀ j, rd M' 145 j = rd M 145 j) (e2 : ∀ j, rl M' 147 j = rl M 147 j) (e3 : ∀ x y z, cstO M' x y z = cstO M x y z) (e4 : ∀ b' c', b < b' → c' < 16 → rd M' 148 (17 * b' + c') = rd M 148 (17 * b' + c')) : Ldv n M' b l L := by
  have em : ∀ x, mn M' x = mn M x := fun x => by unfold mn; rw [e2]
  unfold Ldv
  rw [em]
  refine ⟨fun h0 => ⟨(h.1 h0).1, fun hf => ?_⟩, h.2⟩
  obtain ⟨c, hc, q1, q2, v, q3, q4⟩ := (h.1 h0).2 hf
  have hz := z_set n hn b hb (c / 2) (by omega) (G.2.2.1 c hc q1)
  exact ⟨c, hc, by rwa [e1], by rwa [em], v, by rwa [e3], by rw [e4 _ _ hz.2.1 (by omega)]; exact q4⟩
/-- what the loop over the codes has found -/
def Lc (n : Nat) (M : Mem) (a l c : Nat) (x : Int32) : Prop := (a = 2 ^ n - 1 → x.toInt = 0) ∧ (a ≠ 2 ^ n - 1 → ((∀ c', c' < c → ¬ rd M 145 (16 * a + c') = 0 → ¬ 0 < mn M (a ||| 2 ^ (c' / 2))) ∧ x.toInt = 1000000) ∨ ((∃ c', c' < c ∧ ¬ rd M 145 (16 * a + c') = 0 ∧ 0 < mn M (a ||| 2 ^ (c' / 2)) ∧ ∃ v, cstO M (Int32.ofNat a) (Int32.ofNat l) (Int32.ofNat c') = some v ∧ v.toInt + (rd M 148 (17 * (a ||| 2 ^ (c' / 2)) + c')).toInt = x.toInt) ∧ 0 ≤ x.toInt ∧ x.toInt ≤ 297 * (cntz a n : Int)))
theorem Lc.fin {x : Int32} (h : Lc n M a l (2 * n) x) (G : Gd n M a) (ha : a < 2 ^ n) (hn : n < 9) : Ldv n M a l x := by
  refine ⟨fun h0 => ?_, fun h0 => ?_⟩
  · by_cases e : a = 2 ^ n - 1
    · refine ⟨?_, fun q => absurd e q⟩
      rw [h.1 e]; omega
    · rcases h.2 e with ⟨h1, _⟩ | ⟨h1, h2⟩
      · rcases G.2.2.2.mp h0 with q | ⟨c, hc, q1, q2⟩
        · exact absurd q e
        · exact absurd q2 (h1 c hc q1)
      · exact ⟨h2, fun _ => h1⟩
  · by_cases e : a = 2 ^ n - 1
    · exact absurd (G.2.2.2.mpr (Or.inl e)) h0
    · rcases h.2 e with ⟨_, h2⟩ | ⟨⟨c, hc, q1, q2, _⟩, _⟩
      · exact h2
      · exact absurd (G.2.2.2.mpr (Or.inr ⟨c, hc, q1, q2⟩)) h0
theorem Lc.skip {x : Int32} (h : Lc n M a l c x) (hc : rd M 145 (16 * a + c) = 0) : Lc n M a l (c + 1) x := by
  refine ⟨h.1, fun e => (h.2 e).imp ?_ ?_⟩
  · rintro ⟨h1, h2⟩
    refine ⟨fun c' hc' q => ?_, h2⟩
    by_cases e2 : c' = c
    · subst e2; exact absurd hc q
    · exact h1 c' (by omega) q
  · rintro ⟨⟨c', hc', q⟩, h2⟩
    exact ⟨⟨c', by omega, q⟩, h2⟩
theorem Lc.step {x y v : Int32} (h : Lc n M a l c x) (hc : c < 2 * n) (hq : ¬ rd M 145 (16 * a + c) = 0) (ha : a < 2 ^ n) (hn : n < 9) (hb : a &&& m = m) (G : Gd n M a) (hA : Ald n m M (a + 1)) (hv : cstO M (Int32.ofNat a) (Int32.ofNat l) (Int32.ofNat c) = some v) (hv2 : 0 ≤ v.toInt ∧ v.toInt ≤ 297) (hy : y = imin x (v + rd M 148 (17 * (a ||| 2 ^ (c / 2)) + c))) : Lc n M a l (c + 1) y := by
  have ht := G.2.2.1 c hc hq
  have hz := z_set n hn a ha (c / 2) (by omega) ht
  have hz8 := (z_full n hn a ha).1
  have hf : a ≠ 2 ^ n - 1 := fun e => by rw [e, (z_full2 n hn).2 (c / 2) (by omega)] at ht; cases ht
  have hL := hA (a ||| 2 ^ (c / 2)) (by omega) hz.2.2.1 (z_sup hb) c (Or.inr ⟨hc, hz.2.2.2⟩)
  have hr : 0 ≤ (rd M 148 (17 * (a ||| 2 ^ (c / 2)) + c)).toInt ∧ (rd M 148 (17 * (a ||| 2 ^ (c / 2)) + c)).toInt ≤ 1000000 := by
    by_cases h0 : 0 < mn M (a ||| 2 ^ (c / 2))
    · have := (hL.1 h0).1; omega
    · have := hL.2 h0; omega
  have es := i_add (a := v) (b := rd M 148 (17 * (a ||| 2 ^ (c / 2)) + c)) (by omega) (by omega)
  have ey : y.toInt = min x.toInt (v.toInt + (rd M 148 (17 * (a ||| 2 ^ (c / 2)) + c)).toInt) := by rw [hy, i_min, es]
  refine ⟨fun e => absurd e hf, fun _ => ?_⟩
  rcases h.2 hf with ⟨h1, h2⟩ | ⟨⟨c', hc', q1, q2, w, q3, q4⟩, h2⟩
  · by_cases h0 : 0 < mn M (a ||| 2 ^ (c / 2))
    · have h3 := (hL.1 h0).1
      refine Or.inr ⟨⟨c, by omega, hq, h0, v, hv, ?_⟩, ?_⟩ <;> omega
    · have h3 := hL.2 h0
      refine Or.inl ⟨fun d hd q => ?_, by omega⟩
      by_cases e2 : d = c
      · subst e2; exact h0
      · exact h1 d (by omega) q
  · by_cases h0 : 0 < mn M (a ||| 2 ^ (c / 2))
    · have h3 := (hL.1 h0).1
      by_cases h4 : x.toInt ≤ v.toInt + (rd M 148 (17 * (a ||| 2 ^ (c / 2)) + c)).toInt
      · refine Or.inr ⟨⟨c', by omega, q1, q2, w, q3, ?_⟩, ?_⟩ <;> omega
      · refine Or.inr ⟨⟨c, by omega, hq, h0, v, hv, ?_⟩, ?_⟩ <;> omega
    · have h3 := hL.2 h0
      refine Or.inr ⟨⟨c', by omega, q1, q2, w, q3, ?_⟩, ?_⟩ <;> omega
theorem n2_of (hN : NM n m M) : ((2 : Int32) * (rd M (135 + 1) ((0 : Int32)).toNatClampNeg)).toInt = 2 * (n : Int) := by
  have hn := hN.2.1
  show ((2 : Int32) * rd M 136 0).toInt = _
  rw [hN.1, i_mulc (a := (2 : Int32)) (c := 2) rfl (by rw [t_of (by omega)]; omega) (by rw [t_of (by omega)]; omega), t_of (by omega)]
/-- layCost, when the sets behind are laid -/
theorem pl_cost_l (hM : OKm g M) (hN : NM n m M) (ha : a < 2 ^ n) (hl : l ≤ 16) (hb : a &&& m = m) (G : Gd n M a) (hA : Ald n m M (a + 1)) : ∀ (fuel c : Nat) (x3 x4 : Int32), Lc n M a l c x3 → c ≤ 2 * n → 2 * n - c < fuel → Sf (mX7_layCost_l36 135 fuel (Int32.ofNat a) (Int32.ofNat l) x3 x4 (Int32.ofNat c) M) (fun q => ∃ L H, q.1 = wr (wr M 148 (17 * a + l) L) 149 (17 * a + l) H ∧ Ldv n M a l L) := by
  intro fuel
  induction fuel with
  | zero => intro c x3 x4 _ _ h; exfalso; omega
  | succ fuel IH =>
    intro c x3 x4 hL hc hf
    have hn := hN.2.1
    have hp := z_pow n hn
    show Sf (mX7_layCost_b36 135 (mX7_layCost_l36 135 fuel) (Int32.ofNat a) (Int32.ofNat l) x3 x4 (Int32.ofNat c) M) _
    unfold mX7_layCost_b36
    have i17 : okb ((17 : Int32) * Int32.ofNat a + Int32.ofNat l) 4352 = true := ok_in (by rw [ix17 (by omega) (by omega)]; omega) (by rw [ix17 (by omega) (by omega)]; omega)
    refine Sf.k (by decide) (Sf.i (fun cc => ?_) (fun cc => ?_))
    · have cc := i_le.mp cc
      rw [n2_of hN, t_of (by omega)] at cc
      have : c = 2 * n := by omega
      subst this
      refine Sf.k i17 (Sf.b (fun M13 e13 => Sf.k i17 (Sf.b (fun M16 e16 => Sf.ok ⟨x3, x4, ?_, hL.fin G ha hn⟩))))
      show M16 = _
      rw [e16, e13, ix17c (by omega) (by omega)]
    · have cc := i_nle cc
      rw [n2_of hN, t_of (by omega)] at cc
      have hc2 : c < 2 * n := by omega
      have i16 : okb ((16 : Int32) * Int32.ofNat a + Int32.ofNat c) 4096 = true := ok_in (by rw [ix16 (by omega) (by omega)]; omega) (by rw [ix16 (by omega) (by omega)]; omega)
      refine Sf.k i16 ?_
      have nx : ∀ y3 y4, Lc n M a l (c + 1) y3 → Sf (mX7_layCost_b165 135 (mX7_layCost_l36 135 fuel) (Int32.ofNat a) (Int32.ofNat l) y3 y4 (Int32.ofNat c) M) (fun q => ∃ L H, q.1 = wr (wr M 148 (17 * a + l) L) 149 (17 * a + l) H ∧ Ldv n M a l L) := by
        intro y3 y4 hy
        unfold mX7_layCost_b165
        refine Sf.b (fun x ex => ?_)
        have e : x = Int32.ofNat (c + 1) := by rw [ex]; exact (Int32.ofNat_add c 1).symm
        rw [e]
        exact IH (c + 1) y3 y4 hy (by omega) (by omega)
      refine Sf.i (fun q => ?_) (fun q => ?_)
      · refine nx x3 x4 (hL.skip ?_)
        rw [ix16c (by omega) (by omega)] at q
        exact q
      · have hq : ¬ rd M 145 (16 * a + c) = 0 := by
          rw [ix16c (by omega) (by omega)] at q
          exact q
        have ht := G.2.2.1 c hc2 hq
        have hz := z_set n hn a ha (c / 2) (by omega) ht
        refine Sf.b (fun x6 e6 => ?_)
        rw [f_half c (by omega)] at e6
        subst e6
        have b117 : ∀ v : Int32, cstO M (Int32.ofNat a) (Int32.ofNat l) (Int32.ofNat c) = some v → 0 ≤ v.toInt ∧ v.toInt ≤ 297 → Sf (mX7_layCost_b117 135 (mX7_layCost_l36 135 fuel) (Int32.ofNat a) (Int32.ofNat l) x3 x4 (Int32.ofNat c) (Int32.ofNat (c / 2)) v M) (fun q => ∃ L H, q.1 = wr (wr M 148 (17 * a + l) L) 149 (17 * a + l) H ∧ Ldv n M a l L) := by
          intro v hv hv2
          unfold mX7_layCost_b117
          rw [f_or a (by omega) (c / 2) (by omega)]
          have i8 : okb ((17 : Int32) * Int32.ofNat (a ||| 2 ^ (c / 2)) + Int32.ofNat c) 4352 = true := ok_in (by rw [ix17 (by omega) (by omega)]; omega) (by rw [ix17 (by omega) (by omega)]; omega)
          refine Sf.b (fun x8 e8 => ?_)
          subst e8
          refine Sf.k i8 (Sf.b (fun y3 e3 => Sf.k i8 (Sf.b (fun y4 _ => nx y3 y4 ?_))))
          rw [ix17c (by omega) (by omega)] at e3
          exact hL.step hc2 hq ha hn hb G hA hv hv2 e3
        obtain ⟨v, ev, hv⟩ := cst_ok (a := a) (l := l) (c := c) hM (by omega) hl (by omega)
        have ev0 := ev
        unfold cstO at ev
        refine Sf.i (fun e => ?_) (fun e => ?_)
        · have e2 := ite_t e ev
          cases e2
          exact b117 0 ev0 hv
        · have e2 := ite_f e ev
          obtain ⟨r22, e22, e3⟩ := cap_s e2
          rw [e22]
          show Sf (chk (okb ((16 : Int32) * Int32.ofNat a + Int32.ofNat c) 4096) _) _
          refine Sf.k i16 ?_
          rw [f_mod c (by omega), f_half c (by omega)] at e3
          rw [f_mod c (by omega), e3]
          exact b117 v ev0 hv
theorem pl_cost (hM : OKm g M) (hN : NM n m M) (ha : a < 2 ^ n) (hl : l ≤ 16) (hb : a &&& m = m) (G : Gd n M a) (hA : Ald n m M (a + 1)) : Sf (mX7_layCost 135 (Int32.ofNat a) (Int32.ofNat l) M) (fun q => ∃ L H, q.1 = wr (wr M 148 (17 * a + l) L) 149 (17 * a + l) H ∧ Ldv n M a l L) := by
  have hn := hN.2.1
  have hp := z_pow n hn
  have st : ∀ x3 x4 : Int32, Lc n M a l 0 x3 → Sf (mX7_layCost_b31 135 (Int32.ofNat a) (Int32.ofNat l) x3 x4 M) (fun q => ∃ L H, q.1 = wr (wr M 148 (17 * a + l) L) 149 (17 * a + l) H ∧ Ldv n M a l L) := by
    intro x3 x4 h
    unfold mX7_layCost_b31
    exact pl_cost_l hM hN ha hl hb G hA 5000 0 x3 x4 h (by omega) (by omega)
  unfold mX7_layCost mX7_layCost_b15
  rw [pl_full hN]
  refine Sf.c (Q := fun r => r = Int32.ofNat (2 ^ n - 1)) ⟨_, rfl, rfl⟩ (fun r er => ?_)
  subst er
  refine Sf.i (fun e => ?_) (fun e => ?_)
  · have e2 := o_inj (a := a) (by omega) (by omega) e
    have h0 : Lc n M a l 0 0 := ⟨fun _ => rfl, fun q => absurd e2 q⟩
    refine Sf.c (Q := fun r => r = Int32.ofNat (2 ^ n - 1)) ⟨_, rfl, rfl⟩ (fun r er => ?_)
    exact Sf.i (fun _ => st _ _ h0) (fun _ => st _ _ h0)
  · have h0 : Lc n M a l 0 1000000 := ⟨fun q => absurd (congrArg Int32.ofNat q) e, fun _ => Or.inl ⟨fun c' h => absurd h (by omega), rfl⟩⟩
    refine Sf.c (Q := fun r => r = Int32.ofNat (2 ^ n - 1)) ⟨_, rfl, rfl⟩ (fun r er => ?_)
    exact Sf.i (fun _ => st _ _ h0) (fun _ => st _ _ h0)
end PC
section PD
variable {g : Gm} {M : Mem} {n m : Nat}
def Pl (g : Gm) (n m : Nat) (M : Mem) : Prop := OKm (w2 g) M ∧ NM n m M ∧ Al n m M 0
theorem Pl.put {k j : Nat} {v : Int32} (h : Pl g n m M) (hk : k = 146 ∨ k = 148 ∨ k = 149) : Pl g n m (wr M k j v) := by
  have e1 : ∀ j', rd (wr M k j v) 145 j' = rd M 145 j' := fun j' => rd_wk (by omega)
  have e2 : ∀ j', rd (wr M k j v) 136 j' = rd M 136 j' := fun j' => rd_wk (by omega)
  refine ⟨?_, ⟨(e2 0).trans h.2.1.1, h.2.1.2.1, (e2 52).trans h.2.1.2.2.1, h.2.1.2.2.2⟩, fun b hb hb2 hb3 => (h.2.2 b hb hb2 hb3).of (fun c _ => e1 _) (fun b' _ => rfl)⟩
  rcases hk with rfl | rfl | rfl
  · exact h.1.put (b := bT) rfl (i_rng _)
  · exact h.1.put (b := bT) rfl (i_rng _)
  · exact h.1.put (b := bT) rfl (i_rng _)
theorem Pl.keep {M' : Mem} (h : Pl g n m M) (h' : OKm (w2 g) M') (hk : Keep M M') : Pl g n m M' :=
  ⟨h', h.2.1.keep hk, fun b hb hb2 hb3 => (h.2.2 b hb hb2 hb3).of (fun c _ => hk.1 145 _ (by unfold W1; omega)) (fun b' _ => hk.2 147 b')⟩
/-- the sets from the last one on -/
theorem pl_sets_in {a : Nat} {P : Mem × Unit → Prop} {ih67 : Int32 → Mem → Option (Mem × Unit)} (ha : a < 2 ^ n) (H : ∀ M, Pl g n m M → Ald n m M a → Sf (ih67 (Int32.ofNat a + (-1 : Int32)) M) P) : ∀ (fuel l : Nat) (M : Mem), Pl g n m M → Ald n m M (a + 1) → (a &&& m = m → ∀ l', l' < l → VL n a l' → Ldv n M a l' (rd M 148 (17 * a + l'))) → l ≤ 17 → 17 - l < fuel → Sf (mX7_layCosts_l73 135 ih67 fuel (Int32.ofNat a) (Int32.ofNat l) M) P := by
  intro fuel
  induction fuel with
  | zero => intro l M _ _ _ _ h; exfalso; omega
  | succ fuel IH =>
    intro l M hP hA hI hl hf
    have hN := hP.2.1
    have hn := hN.2.1
    have hp := z_pow n hn
    show Sf (mX7_layCosts_b73 135 ih67 (mX7_layCosts_l73 135 ih67 fuel) (Int32.ofNat a) (Int32.ofNat l) M) P
    have fin : (a &&& m = m → ∀ l', VL n a l' → Ldv n M a l' (rd M 148 (17 * a + l'))) → Sf (mX7_layCosts_b127 135 ih67 (Int32.ofNat a) M) P := by
      intro h
      unfold mX7_layCosts_b127
      refine Sf.b (fun x ex => ?_)
      rw [ex]
      refine H M hP (fun b hb hb2 hb3 => ?_)
      by_cases e : b = a
      · subst e; exact h hb3
      · exact hA b (by omega) hb2 hb3
    have nx : ∀ M', Pl g n m M' → Ald n m M' (a + 1) → (a &&& m = m → ∀ l', l' < l + 1 → VL n a l' → Ldv n M' a l' (rd M' 148 (17 * a + l'))) → l < 17 → Sf (mX7_layCosts_b121 135 ih67 (mX7_layCosts_l73 135 ih67 fuel) (Int32.ofNat a) (Int32.ofNat l) M') P := by
      intro M' hP' hA' hI' hl'
      unfold mX7_layCosts_b121
      refine Sf.b (fun x ex => ?_)
      have e : x = Int32.ofNat (l + 1) := by rw [ex]; exact (Int32.ofNat_add l 1).symm
      rw [e]
      exact IH (l + 1) M' hP' hA' hI' (by omega) (by omega)
    unfold mX7_layCosts_b73
    refine Sf.i (fun c => fin (fun hb l' hv => hI hb l' ?_ hv)) (fun c => ?_)
    · have c := i_le.mp c
      rw [t_of (by omega), show ((17 : Int32)).toInt = 17 from rfl] at c
      rcases hv with e | ⟨e, _⟩ <;> omega
    · have c := i_nle c
      rw [t_of (by omega), show ((17 : Int32)).toInt = 17 from rfl] at c
      rw [pl_behind hN (a := a) (by omega)]
      refine Sf.c (Q := fun r => r = if a &&& m = m then 1 else 0) ⟨_, rfl, rfl⟩ (fun r er => ?_)
      by_cases hb : a &&& m = m
      · rw [if_pos hb] at er
        subst er
        refine Sf.i (fun q => absurd q (by decide)) (fun _ => ?_)
        have G := hP.2.2 a (by omega) ha hb
        have skip : (¬ VL n a l) → Sf (mX7_layCosts_b121 135 ih67 (mX7_layCosts_l73 135 ih67 fuel) (Int32.ofNat a) (Int32.ofNat l) M) P := by
          intro hv
          refine nx M hP hA (fun _ l' hl' hv' => ?_) (by omega)
          by_cases e : l' = l
          · subst e; exact absurd hv' hv
          · exact hI hb l' (by omega) hv'
        have lay : VL n a l → Sf (mX7_layCosts_b115 135 ih67 (mX7_layCosts_l73 135 ih67 fuel) (Int32.ofNat a) (Int32.ofNat l) M) P := by
          intro hv
          unfold mX7_layCosts_b115
          refine Sf.m (pl_cost hP.1 hN ha (by omega) hb G hA) (fun M21 _ p => ?_)
          obtain ⟨L, Hh, e21, hL⟩ := p
          have e21 : M21 = wr (wr M 148 (17 * a + l) L) 149 (17 * a + l) Hh := e21
          have P21 : Pl g n m M21 := by rw [e21]; exact (hP.put (Or.inr (Or.inl rfl))).put (Or.inr (Or.inr rfl))
          have r145 : ∀ j, rd M21 145 j = rd M 145 j := fun j => by rw [e21, rd_wk (by decide), rd_wk (by decide)]
          have r136 : ∀ j, rd M21 (135 + 1) j = rd M (135 + 1) j := fun j => by rw [e21, rd_wk (by decide), rd_wk (by decide)]
          have r146 : ∀ j, rd M21 (135 + 11) j = rd M (135 + 11) j := fun j => by rw [e21, rd_wk (by decide), rd_wk (by decide)]
          have l147 : ∀ j, rl M21 147 j = rl M 147 j := fun j => by rw [e21]; rfl
          have r148 : ∀ j, j ≠ 17 * a + l → rd M21 148 j = rd M 148 j := fun j hj => by rw [e21, rd_wk (by decide), rd_wj hj]
          have e148 : rd M21 148 (17 * a + l) = L := by rw [e21, rd_wk (by decide), rd_we]
          have cs := cst_same r136 r146
          refine nx M21 P21 (fun b hb1 hb2 hb3 l' hv' => ?_) (fun _ l' hl' hv' => ?_) (by omega)
          · have hl16 : l' ≤ 16 := by rcases hv' with e | ⟨e, _⟩ <;> omega
            rw [r148 _ (by omega)]
            exact (hA b hb1 hb2 hb3 l' hv').of (hP.2.2 b (by omega) hb2 hb3) hb2 hn r145 l147 cs (fun b' c' h1 h2 => r148 _ (by omega))
          · by_cases e : l' = l
            · subst e
              rw [e148]
              exact hL.of G ha hn r145 l147 cs (fun b' c' h1 h2 => r148 _ (by omega))
            · rw [r148 _ (by omega)]
              exact (hI hb l' (by omega) hv').of G ha hn r145 l147 cs (fun b' c' h1 h2 => r148 _ (by omega))
        refine Sf.i (fun e => lay (Or.inl (o_inj (a := l) (b := 16) (by omega) (by omega) e))) (fun e => Sf.k (by decide) (Sf.i (fun c2 => skip (fun hv => ?_)) (fun c2 => ?_)))
        · have c2 := i_le.mp c2
          rw [n2_of hN, t_of (by omega)] at c2
          rcases hv with q | ⟨q, _⟩
          · exact e (by rw [q]; rfl)
          · omega
        · have c2 := i_nle c2
          rw [n2_of hN, t_of (by omega)] at c2
          rw [f_half l (by omega)]
          unfold mX7_has
          by_cases t : a.testBit (l / 2) = true
          · have t2 := (f_has a (by omega) (l / 2) (by omega)).mpr t
            refine Sf.c (Q := fun r => r = 1) ⟨1, by unfold ite2; rw [if_pos t2], rfl⟩ (fun r er => ?_)
            subst er
            exact Sf.i (fun q => absurd q (by decide)) (fun _ => lay (Or.inr ⟨by omega, t⟩))
          · have t2 := mt (f_has a (by omega) (l / 2) (by omega)).mp t
            refine Sf.c (Q := fun r => r = 0) ⟨0, by unfold ite2; rw [if_neg t2], rfl⟩ (fun r er => ?_)
            subst er
            refine Sf.i (fun _ => skip (fun hv => ?_)) (fun q => absurd rfl q)
            rcases hv with q | ⟨_, q⟩
            · exact e (by rw [q]; rfl)
            · exact t q
      · rw [if_neg hb] at er
        subst er
        exact Sf.i (fun _ => fin (fun q => absurd q hb)) (fun q => absurd rfl q)
theorem pl_sets : ∀ (fuel a : Nat) (x : Int32) (M : Mem), x.toInt = (a : Int) - 1 → a ≤ 2 ^ n → Pl g n m M → Ald n m M a → a < fuel → Sf (mX7_layCosts_l67 135 fuel x M) (fun q => Pl g n m q.1 ∧ Ald n m q.1 0) := by
  intro fuel
  induction fuel with
  | zero => intro a x M _ _ _ _ h; exfalso; omega
  | succ fuel IH =>
    intro a x M hx ha hP hA hf
    have hp := z_pow n hP.2.1.2.1
    show Sf (mX7_layCosts_b67 135 (mX7_layCosts_l67 135 fuel) x M) _
    unfold mX7_layCosts_b67
    refine Sf.i (fun c => ?_) (fun c => ?_)
    · have c := i_lt.mp c
      rw [show ((0 : Int32)).toInt = 0 from rfl] at c
      have : a = 0 := by omega
      subst this
      exact Sf.ok ⟨hP, hA⟩
    · have c := i_nlt c
      rw [show ((0 : Int32)).toInt = 0 from rfl] at c
      obtain ⟨b, rfl⟩ : ∃ b, a = b + 1 := ⟨a - 1, by omega⟩
      have ex : x = Int32.ofNat b := by
        have := o_of (x := x) (by omega)
        rw [this]; congr 1; omega
      subst ex
      refine pl_sets_in (g := g) (n := n) (m := m) (by omega) (fun M' h' A' => ?_) 5000 0 M hP hA (fun _ l' h => absurd h (by omega)) (by omega) (by omega)
      refine IH b _ M' ?_ (by omega) h' A' (by omega)
      rw [i_add (by rw [t_of (by omega), show ((-1 : Int32)).toInt = -1 from rfl]; omega) (by rw [t_of (by omega), show ((-1 : Int32)).toInt = -1 from rfl]; omega), t_of (by omega)]
      rfl
/-- the gauges -/
theorem pl_gauges_in {a : Nat} {P : Mem × Unit → Prop} {ih6 : Int32 → Mem → Option (Mem × Unit)} (ha : a < 2 ^ n) (H : ∀ M, Pl g n m M → Sf (ih6 (Int32.ofNat (a + 1)) M) P) : ∀ (fuel c : Nat) (M : Mem), Pl g n m M → c ≤ 2 * n → 2 * n - c < fuel → Sf (mX7_layCosts_l16 135 ih6 fuel (Int32.ofNat a) (Int32.ofNat c) M) P := by
  intro fuel
  induction fuel with
  | zero => intro c M _ _ h; exfalso; omega
  | succ fuel IH =>
    intro c M hP hc hf
    have hN := hP.2.1
    have hn := hN.2.1
    have hp := z_pow n hn
    show Sf (mX7_layCosts_b16 135 ih6 (mX7_layCosts_l16 135 ih6 fuel) (Int32.ofNat a) (Int32.ofNat c) M) P
    unfold mX7_layCosts_b16
    refine Sf.k (by decide) (Sf.i (fun _ => Sf.b (fun x ex => ?_)) (fun cc => ?_))
    · have e : x = Int32.ofNat (a + 1) := by rw [ex]; exact (Int32.ofNat_add a 1).symm
      rw [e]; exact H M hP
    · have cc := i_nle cc
      rw [n2_of hN, t_of (by omega)] at cc
      rw [f_mod c (by omega), f_half c (by omega)]
      have i16 : okb ((16 : Int32) * Int32.ofNat a + Int32.ofNat c) 4096 = true := ok_in (by rw [ix16 (by omega) (by omega)]; omega) (by rw [ix16 (by omega) (by omega)]; omega)
      refine Sf.m (fr (R := fun _ => True) hP.1 (fun g' h' => Sf.mono (sX7_gaugeOf h' (x1 := Int32.ofNat (c / 2)) (x2 := Int32.ofNat (c % 2)) (x3 := Int32.ofNat a) (by rw [t_of (by omega)]; omega) (by rw [t_of (by omega)]; omega) (by rw [t_of (by omega)]; omega)) (fun q hq => ⟨hq.1, trivial⟩))) (fun M34 r33 p => ?_)
      have P34 : Pl g n m M34 := hP.keep p.1 p.2.1
      refine Sf.k i16 (Sf.b (fun M37 e37 => Sf.b (fun x ex => ?_)))
      have e : x = Int32.ofNat (c + 1) := by rw [ex]; exact (Int32.ofNat_add c 1).symm
      rw [e]
      exact IH (c + 1) M37 (by rw [e37]; exact P34.put (Or.inl rfl)) (by omega) (by omega)
theorem pl_gauges : ∀ (fuel a : Nat) (M : Mem), Pl g n m M → a ≤ 2 ^ n → 2 ^ n - a < fuel → Sf (mX7_layCosts_l6 135 fuel (Int32.ofNat a) M) (fun q => Pl g n m q.1 ∧ Ald n m q.1 0) := by
  intro fuel
  induction fuel with
  | zero => intro a M _ _ h; exfalso; omega
  | succ fuel IH =>
    intro a M hP ha hf
    have hN := hP.2.1
    have hn := hN.2.1
    have hp := z_pow n hn
    show Sf (mX7_layCosts_b6 135 (mX7_layCosts_l6 135 fuel) (Int32.ofNat a) M) _
    unfold mX7_layCosts_b6
    rw [pl_full hN]
    refine Sf.c (Q := fun r => r = Int32.ofNat (2 ^ n - 1)) ⟨_, rfl, rfl⟩ (fun r er => ?_)
    subst er
    refine Sf.i (fun c => ?_) (fun c => ?_)
    · refine Sf.c (Q := fun r => r = Int32.ofNat (2 ^ n - 1)) ⟨_, rfl, rfl⟩ (fun r er => ?_)
      subst er
      exact pl_sets 5000 (2 ^ n) _ M (by rw [t_of (by omega)]; omega) (by omega) hP (fun b h1 h2 => by omega) (by omega)
    · have c := i_nlt c
      rw [t_of (by omega), t_of (by omega)] at c
      refine pl_gauges_in (n := n) (m := m) (by omega) (fun M' h' => IH (a + 1) M' h' (by omega) (by omega)) 5000 0 M hP (by omega) (by omega)
theorem sX7_layCosts' (h : OKm g M) (hN : NM n m M) : Sf (mX7_layCosts 135 M) (fun q => Pl g n m q.1 ∧ Ald n m q.1 0) := by
  have hp := z_pow n hN.2.1
  unfold mX7_layCosts
  refine Sf.m (sX7_layOrders' h hN) (fun M3 _ p => ?_)
  exact pl_gauges 5000 0 M3 p (by omega) (by omega)
end PD
