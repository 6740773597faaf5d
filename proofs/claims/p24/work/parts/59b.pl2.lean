/-! layOrders: how many orders there are behind each set -/
theorem w_le : ∀ k, k < 9 → 1 ≤ (16 : Int) ^ k ∧ (16 : Int) ^ k ≤ 4294967296 := by decide
theorem w_succ (k : Nat) : (16 : Int) ^ (k + 1) = 16 * 16 ^ k := by rw [Int.pow_succ, Int.mul_comm]
def mn (M : Mem) (b : Nat) : Int := (rl M 147 b).toInt
def Gd (n : Nat) (M : Mem) (b : Nat) : Prop := 0 ≤ mn M b ∧ mn M b ≤ 16 ^ cntz b n ∧ (∀ c, c < 2 * n → ¬ rd M 145 (16 * b + c) = 0 → b.testBit (c / 2) = false) ∧ (0 < mn M b ↔ b = 2 ^ n - 1 ∨ ∃ c, c < 2 * n ∧ ¬ rd M 145 (16 * b + c) = 0 ∧ 0 < mn M (b ||| 2 ^ (c / 2)))
def Pa (n : Nat) (M : Mem) (a c : Nat) : Prop := 0 ≤ mn M a ∧ mn M a ≤ (if a = 2 ^ n - 1 then 1 else (c : Int) * 16 ^ (cntz a n - 1)) ∧ (∀ c', c' < c → ¬ rd M 145 (16 * a + c') = 0 → a.testBit (c' / 2) = false) ∧ (0 < mn M a ↔ a = 2 ^ n - 1 ∨ ∃ c', c' < c ∧ ¬ rd M 145 (16 * a + c') = 0 ∧ 0 < mn M (a ||| 2 ^ (c' / 2)))
def Al (n m : Nat) (M : Mem) (a : Nat) : Prop := ∀ b, a ≤ b → b < 2 ^ n → b &&& m = m → Gd n M b
section PO
variable {g : Gm} {M M' : Mem} {n m a b c : Nat}
theorem Gd.of (h : Gd n M b) (h1 : ∀ c, c < 2 * n → rd M' 145 (16 * b + c) = rd M 145 (16 * b + c)) (h2 : ∀ b', b ≤ b' → rl M' 147 b' = rl M 147 b') : Gd n M' b := by
  have e : ∀ b', b ≤ b' → mn M' b' = mn M b' := fun b' hb => by unfold mn; rw [h2 b' hb]
  refine ⟨by rw [e b (Nat.le_refl _)]; exact h.1, by rw [e b (Nat.le_refl _)]; exact h.2.1, fun c hc q => h.2.2.1 c hc (by rwa [h1 c hc] at q), ?_⟩
  rw [e b (Nat.le_refl _)]
  constructor
  · intro h0
    rcases h.2.2.2.mp h0 with q | ⟨c, hc, q1, q2⟩
    · exact Or.inl q
    · exact Or.inr ⟨c, hc, by rwa [h1 c hc], by rwa [e _ Nat.left_le_or]⟩
  · intro h0
    refine h.2.2.2.mpr (h0.imp id ?_)
    rintro ⟨c, hc, q1, q2⟩
    exact ⟨c, hc, by rwa [h1 c hc] at q1, by rwa [e _ Nat.left_le_or] at q2⟩
theorem okm_l2 {k j : Nat} {v : Int64} (h : OKm (w2 g) M) : OKm (w2 g) (wl M k j v) := ⟨h.1, h.2.1, fun _ _ => trivial⟩
theorem okm_c2 {j : Nat} {v : Int32} (h : OKm (w2 g) M) (hv : 0 ≤ v.toInt ∧ v.toInt ≤ 1) : OKm (w2 g) (wr M 145 j v) := h.put (b := (0, 1)) rfl hv
theorem Pa.good (h : Pa n M a (2 * n)) (ha : a < 2 ^ n) (hn : n < 9) : Gd n M a := by
  refine ⟨h.1, ?_, h.2.2.1, h.2.2.2⟩
  have h2 := h.2.1
  have hz := z_full n hn a ha
  split at h2
  · have := (w_le (cntz a n) (by omega)).1
    omega
  · rename_i hf
    have hz1 : cntz a n ≠ 0 := fun e => hf (hz.2 e)
    obtain ⟨z, ez⟩ : ∃ z, cntz a n = z + 1 := ⟨cntz a n - 1, by omega⟩
    rw [ez] at h2 ⊢
    rw [w_succ]
    have hw := (w_le z (by omega)).1
    rw [Nat.add_sub_cancel] at h2
    have h3 : ((2 * n : Nat) : Int) * 16 ^ z ≤ 16 * 16 ^ z := Int.mul_le_mul_of_nonneg_right (by omega) (by omega)
    omega
/-- a code's step -/
theorem pa_step {y : Int32} {s : Int} (ha : a < 2 ^ n) (hn : n < 9) (hc : c < 2 * n) (hbm : a &&& m = m) (hA : Al n m M (a + 1)) (hP : Pa n M a c) (hy : y = 0 ∧ s = 0 ∨ y = 1 ∧ s = mn M (a ||| 2 ^ (c / 2)) ∧ a.testBit (c / 2) = false)
    (e1 : ∀ j, j ≠ 16 * a + c → rd M' 145 j = rd M 145 j) (e2 : rd M' 145 (16 * a + c) = y) (e3 : ∀ b, b ≠ a → rl M' 147 b = rl M 147 b) (e4 : mn M' a = mn M a + s) : Pa n M' a (c + 1) ∧ Al n m M' (a + 1) := by
  have hA' : Al n m M' (a + 1) := fun b hb hb2 hb3 => (hA b hb hb2 hb3).of (fun c' hc' => e1 _ (by omega)) (fun b' hb' => e3 b' (by omega))
  refine ⟨?_, hA'⟩
  have em : ∀ b, b ≠ a → mn M' b = mn M b := fun b hb => by unfold mn; rw [e3 b hb]
  obtain ⟨p1, p2, p3, p4⟩ := hP
  -- what a step leads to
  have st : a.testBit (c / 2) = false → (a ||| 2 ^ (c / 2)) ≠ a ∧ 0 ≤ mn M (a ||| 2 ^ (c / 2)) ∧ mn M (a ||| 2 ^ (c / 2)) ≤ 16 ^ (cntz a n - 1) ∧ a ≠ 2 ^ n - 1 := by
    intro h
    have h1 := z_set n hn a ha (c / 2) (by omega) h
    have h2 := hA (a ||| 2 ^ (c / 2)) (by omega) h1.2.2.1 (z_sup hbm)
    refine ⟨by omega, h2.1, ?_, fun e => ?_⟩
    · have h3 := h2.2.1
      rw [show cntz (a ||| 2 ^ (c / 2)) n = cntz a n - 1 by omega] at h3
      exact h3
    · rw [e, (z_full2 n hn).2 (c / 2) (by omega)] at h; cases h
  have hs : 0 ≤ s := by
    rcases hy with ⟨_, hs⟩ | ⟨_, hs, ht⟩
    · omega
    · have := (st ht).2.1; omega
  have st' : ∀ c', c' < 2 * n → a.testBit (c' / 2) = false → (a ||| 2 ^ (c' / 2)) ≠ a := by
    intro c' hc' h
    have h1 := z_set n hn a ha (c' / 2) (by omega) h
    omega
  have old : ∀ c', c' < c → rd M' 145 (16 * a + c') = rd M 145 (16 * a + c') := fun c' h => e1 _ (by omega)
  refine ⟨by omega, ?_, fun c' hc' q => ?_, ?_⟩
  · rw [e4]
    split
    · rename_i hf
      rw [if_pos hf] at p2
      rcases hy with ⟨_, hs0⟩ | ⟨_, _, ht⟩
      · omega
      · exact absurd hf (st ht).2.2.2
    · rename_i hf
      rw [if_neg hf] at p2
      have hw : (((c + 1 : Nat) : Int)) * 16 ^ (cntz a n - 1) = (c : Int) * 16 ^ (cntz a n - 1) + 16 ^ (cntz a n - 1) := by
        rw [Int.natCast_add, Int.add_mul, show (((1 : Nat)) : Int) = 1 from rfl, Int.one_mul]
      have hz := z_full n hn a ha
      have hw1 := (w_le (cntz a n - 1) (by omega)).1
      rw [hw]
      rcases hy with ⟨_, hs0⟩ | ⟨_, hs1, ht⟩
      · omega
      · have := (st ht).2.2.1
        omega
  · by_cases e : c' = c
    · subst e
      rw [e2] at q
      rcases hy with ⟨y0, _⟩ | ⟨_, _, ht⟩
      · exact absurd y0 q
      · exact ht
    · rw [old c' (by omega)] at q
      exact p3 c' (by omega) q
  · rw [e4]
    constructor
    · intro h0
      by_cases h1 : 0 < mn M a
      · rcases p4.mp h1 with q | ⟨c', hc', q1, q2⟩
        · exact Or.inl q
        · exact Or.inr ⟨c', by omega, by rwa [old c' hc'], by rwa [em _ (st' c' (by omega) (p3 c' hc' q1))]⟩
      · rcases hy with ⟨_, hs0⟩ | ⟨y1, hs1, ht⟩
        · omega
        · refine Or.inr ⟨c, by omega, by rw [e2, y1]; decide, ?_⟩
          rw [em _ (st ht).1]; omega
    · intro h0
      rcases h0 with q | ⟨c', hc', q1, q2⟩
      · have := p4.mpr (Or.inl q)
        omega
      · by_cases e : c' = c
        · subst e
          rw [e2] at q1
          rcases hy with ⟨y0, _⟩ | ⟨_, hs1, ht⟩
          · exact absurd y0 q1
          · rw [em _ (st ht).1] at q2
            omega
        · rw [old c' (by omega)] at q1
          rw [em _ (st' c' (by omega) (p3 c' (by omega) q1))] at q2
          have := p4.mpr (Or.inr ⟨c', by omega, q1, q2⟩)
          omega
end PO
section PQ
variable {g : Gm} {n m a : Nat} {P : Mem × Unit → Prop} {ih5 : Int32 → Mem → Option (Mem × Unit)}
theorem pl_in (ha : a < 2 ^ n) (H5 : ∀ M, OKm (w2 g) M → NM n m M → Al n m M a → Sf (ih5 (Int32.ofNat a + (-1 : Int32)) M) P) : ∀ (fuel c : Nat) (M : Mem), OKm (w2 g) M → NM n m M → Al n m M (a + 1) → (a &&& m = m → Pa n M a c) → c ≤ 2 * n → 2 * n - c < fuel → Sf (mX7_layOrders_l30 135 ih5 fuel (Int32.ofNat a) (Int32.ofNat c) M) P := by
  intro fuel
  induction fuel with
  | zero => intro c M _ _ _ _ _ h; exfalso; omega
  | succ fuel IH =>
    intro c M hM hN hA hP hc hf
    have hn := hN.2.1
    have hp := z_pow n hn
    have fin : (a &&& m = m → Gd n M a) → Sf (mX7_layOrders_b117 135 ih5 (Int32.ofNat a) M) P := by
      intro hG
      unfold mX7_layOrders_b117
      refine Sf.b (fun x ex => ?_)
      rw [ex]
      refine H5 M hM hN (fun b hb hb2 hb3 => ?_)
      by_cases e : b = a
      · subst e; exact hG hb3
      · exact hA b (by omega) hb2 hb3
    show Sf (mX7_layOrders_b30 135 ih5 (mX7_layOrders_l30 135 ih5 fuel) (Int32.ofNat a) (Int32.ofNat c) M) P
    unfold mX7_layOrders_b30
    have hN2 : ((2 : Int32) * (rd M (135 + 1) ((0 : Int32)).toNatClampNeg)).toInt = 2 * (n : Int) := by
      show ((2 : Int32) * rd M 136 0).toInt = _
      rw [hN.1, i_mulc (a := (2 : Int32)) (c := 2) rfl (by rw [t_of (by omega)]; omega) (by rw [t_of (by omega)]; omega), t_of (by omega)]
    refine Sf.k (by decide) (Sf.i (fun cc => fin (fun hb => ?_)) (fun cc => ?_))
    · have cc := i_le.mp cc
      rw [hN2, t_of (by omega)] at cc
      have : c = 2 * n := by omega
      subst this
      exact (hP hb).good ha hn
    · have cc := i_nle cc
      rw [hN2, t_of (by omega)] at cc
      have hc2 : c < 2 * n := by omega
      rw [pl_behind hN (a := a) (by omega)]
      refine Sf.c (Q := fun r => r = if a &&& m = m then 1 else 0) ⟨_, rfl, rfl⟩ (fun r er => ?_)
      by_cases hb : a &&& m = m
      · rw [if_pos hb] at er
        subst er
        refine Sf.i (fun q => absurd q (by decide)) (fun _ => ?_)
        refine Sf.m (pl_reason hM (a := a) (c := c) (by omega) (by omega)) (fun M21 r20 p => ?_)
        have h21 : OKm (w2 g) M21 := p.1
        have k21 : Keep M M21 := p.2.1
        have nt : ∀ k, k = 145 ∨ k = 136 → ∀ j, rd M21 k j = rd M k j := fun k hk j => k21.1 k j (by unfold W1; omega)
        have N21 : NM n m M21 := hN.keep k21
        -- the tables as they were
        have hA21 : Al n m M21 (a + 1) := fun b hb hb2 hb3 => (hA b hb hb2 hb3).of (fun c' _ => nt 145 (Or.inl rfl) _) (fun b' _ => k21.2 147 b')
        have hP21 : Pa n M21 a c := by
          have em : ∀ b, mn M21 b = mn M b := fun b => by unfold mn; rw [k21.2]
          obtain ⟨p1, p2, p3, p4⟩ := hP hb
          refine ⟨by rw [em]; exact p1, by rw [em]; exact p2, fun c' h q => p3 c' h (by rwa [nt 145 (Or.inl rfl)] at q), ?_⟩
          rw [em]
          constructor
          · intro h0
            refine (p4.mp h0).imp id ?_
            rintro ⟨c', h, q1, q2⟩
            exact ⟨c', h, by rwa [nt 145 (Or.inl rfl)], by rwa [em]⟩
          · intro h0
            refine p4.mpr (h0.imp id ?_)
            rintro ⟨c', h, q1, q2⟩
            exact ⟨c', h, by rwa [nt 145 (Or.inl rfl)] at q1, by rwa [em] at q2⟩
        have i1 : okb ((16 : Int32) * Int32.ofNat a + Int32.ofNat c) 4096 = true := ok_in (by rw [ix16 (by omega) (by omega)]; omega) (by rw [ix16 (by omega) (by omega)]; omega)
        have i2 : okb (Int32.ofNat a) 256 = true := ok_in (by rw [t_of (by omega)]; omega) (by rw [t_of (by omega)]; omega)
        have ca : (Int32.ofNat a).toNatClampNeg = a := c_of (by omega)
        have next : ∀ (M30 : Mem), OKm (w2 g) M30 → NM n m M30 → Al n m M30 (a + 1) → Pa n M30 a (c + 1) → Sf (bnd (Int32.ofNat c + (1 : Int32)) (fun x2_111 => mX7_layOrders_l30 135 ih5 fuel (Int32.ofNat a) x2_111 M30)) P := by
          intro M30 h30 N30 A30 P30
          refine Sf.b (fun x ex => ?_)
          have e : x = Int32.ofNat (c + 1) := by rw [ex]; exact (Int32.ofNat_add c 1).symm
          rw [e]
          exact IH (c + 1) M30 h30 N30 A30 (fun _ => P30) (by omega) (by omega)
        refine Sf.i (fun q => ?_) (fun _ => ?_)
        · have ht := p.2.2 q
          have hst := z_set n hn a ha (c / 2) (by omega) ht
          unfold mX7_layOrders_b69
          refine Sf.k i1 (Sf.b (fun M25 e25 => Sf.k i2 (Sf.i (fun q => absurd q (by decide)) (fun _ => ?_))))
          rw [show vp_nar .boolean (1 : Int32) = 1 from by decide, ix16c (by omega) (by omega)] at e25
          rw [f_half c (by omega), f_or a (by omega) (c / 2) (by omega), c_of (a := a ||| 2 ^ (c / 2)) (by omega), ca]
          refine Sf.k (ok_in (by rw [t_of (by omega)]; omega) (by rw [t_of (by omega)]; omega)) ?_
          unfold mX7_layOrders_b109
          rw [ca]
          refine Sf.k i2 (Sf.b (fun M30 e30 => ?_))
          have h25 : OKm (w2 g) M25 := by rw [e25]; exact okm_c2 h21 (by decide)
          have r25 : ∀ b, rl M25 147 b = rl M21 147 b := fun b => by rw [e25]; rfl
          have G := hA21 (a ||| 2 ^ (c / 2)) (by omega) hst.2.2.1 (z_sup hb)
          have hz := z_full n hn a ha
          have b1 := (w_le (cntz (a ||| 2 ^ (c / 2)) n) (by omega)).2
          have hle : mn M21 a ≤ 1099511627776 := by
            have h2 := hP21.2.1
            split at h2
            · omega
            · have b2 := w_le (cntz a n - 1) (by omega)
              have h3 : (c : Int) * 16 ^ (cntz a n - 1) ≤ 16 * 16 ^ (cntz a n - 1) := Int.mul_le_mul_of_nonneg_right (by omega) (by omega)
              omega
          have r30 : ∀ k j, rd M30 k j = rd M25 k j := fun k j => by rw [e30]; rfl
          have q30 : ∀ j, rd M30 136 j = rd M21 136 j := fun j => by rw [r30, e25]; exact rd_wk (by decide)
          have s1 := pa_step (M := M21) (M' := M30) (y := 1) (s := mn M21 (a ||| 2 ^ (c / 2))) ha hn hc2 hb hA21 hP21 (Or.inr ⟨rfl, rfl, ht⟩)
            (fun j hj => by rw [r30, e25]; exact rd_wj hj) (by rw [r30, e25]; exact rd_we) (fun b hb => by rw [e30, e25]; exact rl_wj hb)
            (by
              have ee : rl M30 147 a = rl M21 147 a + rl M21 147 (a ||| 2 ^ (c / 2)) := by rw [e30, r25, r25]; exact rl_we
              unfold mn
              rw [ee]
              exact l_add ⟨hP21.1, hle⟩ ⟨G.1, by have := G.2.1; unfold mn at this; omega⟩)
          exact next M30 (by rw [e30]; exact okm_l2 h25) ⟨(q30 0).trans N21.1, hn, (q30 52).trans N21.2.2.1, N21.2.2.2⟩ s1.2 s1.1
        · unfold mX7_layOrders_b69
          refine Sf.k i1 (Sf.b (fun M25 e25 => Sf.k i2 (Sf.i (fun _ => ?_) (fun q => absurd rfl q))))
          rw [show vp_nar .boolean (0 : Int32) = 0 from by decide, ix16c (by omega) (by omega)] at e25
          unfold mX7_layOrders_b109
          rw [ca]
          refine Sf.k i2 (Sf.b (fun M30 e30 => ?_))
          have h25 : OKm (w2 g) M25 := by rw [e25]; exact okm_c2 h21 (by decide)
          have r30 : ∀ k j, rd M30 k j = rd M25 k j := fun k j => by rw [e30]; rfl
          have q30 : ∀ j, rd M30 136 j = rd M21 136 j := fun j => by rw [r30, e25]; exact rd_wk (by decide)
          have s1 := pa_step (M := M21) (M' := M30) (y := 0) (s := 0) ha hn hc2 hb hA21 hP21 (Or.inl ⟨rfl, rfl⟩)
            (fun j hj => by rw [r30, e25]; exact rd_wj hj) (by rw [r30, e25]; exact rd_we) (fun b hb => by rw [e30, e25]; exact rl_wj hb)
            (by
              have ee : rl M30 147 a = rl M21 147 a + 0 := by rw [e30, e25]; exact rl_we
              unfold mn
              rw [ee, Int64.add_zero]
              omega)
          exact next M30 (by rw [e30]; exact okm_l2 h25) ⟨(q30 0).trans N21.1, hn, (q30 52).trans N21.2.2.1, N21.2.2.2⟩ s1.2 s1.1
      · rw [if_neg hb] at er
        subst er
        exact Sf.i (fun _ => fin (fun q => absurd q hb)) (fun q => absurd rfl q)
end PQ
section PR
variable {g : Gm} {n m : Nat}
theorem pl_out : ∀ (fuel a : Nat) (x : Int32) (M : Mem), x.toInt = (a : Int) - 1 → a ≤ 2 ^ n → OKm (w2 g) M → NM n m M → Al n m M a → a < fuel → Sf (mX7_layOrders_l5 135 fuel x M) (fun q => OKm (w2 g) q.1 ∧ NM n m q.1 ∧ Al n m q.1 0) := by
  intro fuel
  induction fuel with
  | zero => intro a x M _ _ _ _ _ h; exfalso; omega
  | succ fuel IH =>
    intro a x M hx ha hM hN hA hf
    have hn := hN.2.1
    have hp := z_pow n hn
    show Sf (mX7_layOrders_b5 135 (mX7_layOrders_l5 135 fuel) x M) _
    unfold mX7_layOrders_b5
    refine Sf.i (fun c => ?_) (fun c => ?_)
    · have c := i_lt.mp c
      rw [show ((0 : Int32)).toInt = 0 from rfl] at c
      have : a = 0 := by omega
      subst this
      exact Sf.ok ⟨hM, hN, hA⟩
    · have c := i_nlt c
      rw [show ((0 : Int32)).toInt = 0 from rfl] at c
      obtain ⟨b, rfl⟩ : ∃ b, a = b + 1 := ⟨a - 1, by omega⟩
      have ex : x = Int32.ofNat b := by
        have := o_of (x := x) (by omega)
        rw [this]; congr 1; omega
      subst ex
      rw [pl_full hN]
      refine Sf.c (Q := fun r => r = Int32.ofNat (2 ^ n - 1)) ⟨_, rfl, rfl⟩ (fun r er => ?_)
      subst er
      have cb : (Int32.ofNat b).toNatClampNeg = b := c_of (by omega)
      have go : ∀ v : Int64, (b = 2 ^ n - 1 ∧ v = 1 ∨ b ≠ 2 ^ n - 1 ∧ v = 0) → Sf (mX7_layOrders_b27 135 (mX7_layOrders_l5 135 fuel) (Int32.ofNat b) (Int32.ofNat b) v M) (fun q => OKm (w2 g) q.1 ∧ NM n m q.1 ∧ Al n m q.1 0) := by
        intro v hv
        unfold mX7_layOrders_b27
        rw [cb]
        refine Sf.k (ok_in (by rw [t_of (by omega)]; omega) (by rw [t_of (by omega)]; omega)) (Sf.b (fun M11 e11 => ?_))
        have h11 : OKm (w2 g) M11 := by rw [e11]; exact okm_l2 hM
        have N11 : NM n m M11 := by rw [e11]; exact hN
        have A11 : Al n m M11 (b + 1) := fun d hd hd2 hd3 => (hA d hd hd2 hd3).of (fun c' _ => by rw [e11]; rfl) (fun b' hb' => by rw [e11]; exact rl_wj (by omega))
        have v11 : mn M11 b = v.toInt := by unfold mn; rw [e11, rl_we]
        refine pl_in (n := n) (m := m) (by omega) (fun M' h' N' A' => ?_) 5000 0 M11 h11 N11 A11 (fun _ => ?_) (by omega) (by omega)
        · refine IH b (Int32.ofNat b + (-1 : Int32)) M' ?_ (by omega) h' N' A' (by omega)
          rw [i_add (by rw [t_of (by omega), show ((-1 : Int32)).toInt = -1 from rfl]; omega) (by rw [t_of (by omega), show ((-1 : Int32)).toInt = -1 from rfl]; omega), t_of (by omega)]
          rfl
        · have vi : v.toInt = if b = 2 ^ n - 1 then 1 else 0 := by
            rcases hv with ⟨h1, h2⟩ | ⟨h1, h2⟩
            · rw [if_pos h1, h2]; rfl
            · rw [if_neg h1, h2]; rfl
          unfold Pa
          rw [v11, vi]
          refine ⟨by split <;> omega, ?_, fun c' h => absurd h (by omega), ?_⟩
          · split
            · omega
            · simp
          · constructor
            · intro h0
              split at h0
              · rename_i e; exact Or.inl e
              · omega
            · intro h0
              rcases h0 with e | ⟨c', h, _⟩
              · rw [if_pos e]; omega
              · omega
      refine Sf.i (fun e => go 1 (Or.inl ⟨o_inj (by omega) (by omega) e, rfl⟩)) (fun e => go 0 (Or.inr ⟨fun q => e (congrArg Int32.ofNat q), rfl⟩))
theorem sX7_layOrders' {M : Mem} (h : OKm g M) (hN : NM n m M) : Sf (mX7_layOrders 135 M) (fun q => OKm (w2 g) q.1 ∧ NM n m q.1 ∧ Al n m q.1 0) := by
  have hp := z_pow n hN.2.1
  unfold mX7_layOrders
  rw [pl_full hN]
  refine Sf.c (Q := fun r => r = Int32.ofNat (2 ^ n - 1)) ⟨_, rfl, rfl⟩ (fun r er => ?_)
  subst er
  exact pl_out 5000 (2 ^ n) _ M (by rw [t_of (by omega)]; omega) (by omega) h.w2 hN (fun b h1 h2 => by omega) (by omega)
end PR
