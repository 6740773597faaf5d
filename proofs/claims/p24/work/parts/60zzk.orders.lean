/-! the reference lays its orders: what its tables say -/
def cnb (N : Mem) (a c : Nat) : Bool := !decide (rd N (135 + 10) (16 * a + c) = 0)
def ROk (N0 : Mem) (a c : Nat) (o : Bool) : Prop := ∃ N1 q1, row 136 N1 = row 136 N0 ∧ mX7_reasonOf 135 (Int32.ofNat (c / 2)) (Int32.ofNat (c % 2)) (Int32.ofNat a) N1 = some q1 ∧ (o = true ↔ q1.2 = 0)
def LOp (n : Nat) (N0 N : Mem) (a c : Nat) : Prop := (∀ c', c' < c → ROk N0 a c' (cnb N a c') ∧ (cnb N a c' = true → a.testBit (c' / 2) = false)) ∧ rl N (135 + 12) a = csum (if a = 2 ^ n - 1 then 1 else 0) (cnb N a) (fun c => rl N (135 + 12) (a ||| 2 ^ (c / 2))) c
def LOa (n m : Nat) (N0 N : Mem) (a : Nat) : Prop := ∀ b, a ≤ b → b < 2 ^ n → b &&& m = m → LOp n N0 N b (2 * n)
section LO
variable {g : Gm} {n m a b c : Nat} {N N' N0 : Mem} {P : Mem × Unit → Prop}
theorem LOp.of (h : LOp n N0 N a c) (h1 : ∀ c', c' < c → rd N' (135 + 10) (16 * a + c') = rd N (135 + 10) (16 * a + c')) (h2 : ∀ b, a ≤ b → rl N' (135 + 12) b = rl N (135 + 12) b) : LOp n N0 N' a c := by
  have e : ∀ c', c' < c → cnb N' a c' = cnb N a c' := fun c' hc => by unfold cnb; rw [h1 c' hc]
  refine ⟨fun c' hc => by rw [e c' hc]; exact h.1 c' hc, ?_⟩
  rw [h2 a (Nat.le_refl _), h.2]
  exact csum_eq c (fun c' hc => (e c' hc).symm) (fun c' hc _ => (h2 _ Nat.left_le_or).symm)
theorem LOa.of (h : LOa n m N0 N a) (h1 : ∀ b c', a ≤ b → c' < 2 * n → rd N' (135 + 10) (16 * b + c') = rd N (135 + 10) (16 * b + c')) (h2 : ∀ b, a ≤ b → rl N' (135 + 12) b = rl N (135 + 12) b) : LOa n m N0 N' a := fun b hb h3 h4 => (h b hb h3 h4).of (fun c' hc => h1 b c' hb hc) (fun b' hb' => h2 b' (by omega))
theorem row_keep (hk : Keep N N') : row 136 N' = row 136 N := by
  funext j; exact hk.1 136 j (by unfold W1; omega)
theorem lo_in (ha : a < 2 ^ n) {ih5 : Int32 → Mem → Option (Mem × Unit)} (H : ∀ N, OKm (w2 g) N → NM n m N → row 136 N = row 136 N0 → LOa n m N0 N a → Pc (ih5 (Int32.ofNat a + (-1 : Int32)) N) P) : ∀ (fuel c : Nat) (N : Mem), OKm (w2 g) N → NM n m N → row 136 N = row 136 N0 → LOa n m N0 N (a + 1) → (a &&& m = m → LOp n N0 N a c) → c ≤ 2 * n → Pc (mX7_layOrders_l30 135 ih5 fuel (Int32.ofNat a) (Int32.ofNat c) N) P := by
  intro fuel
  induction fuel with
  | zero => intro c N _ _ _ _ _ _ q e; cases e
  | succ fuel IH =>
    intro c N hM hN hR hA hP hc
    have hn := hN.2.1
    have hp := z_pow n hn
    have fin : (a &&& m = m → LOp n N0 N a (2 * n)) → Pc (mX7_layOrders_b117 135 ih5 (Int32.ofNat a) N) P := by
      intro hG
      unfold mX7_layOrders_b117
      refine Pc.b (fun x ex => ?_)
      rw [ex]
      refine H N hM hN hR (fun b hb hb2 hb3 => ?_)
      by_cases e : b = a
      · subst e; exact hG hb3
      · exact hA b (by omega) hb2 hb3
    show Pc (mX7_layOrders_b30 135 ih5 (mX7_layOrders_l30 135 ih5 fuel) (Int32.ofNat a) (Int32.ofNat c) N) P
    unfold mX7_layOrders_b30
    have hN2 := n2_of hN
    refine Pc.k (fun _ => Pc.i (fun cc => fin (fun hb => ?_)) (fun cc => ?_))
    · have cc := i_le.mp cc
      rw [hN2, t_of (by omega)] at cc
      have : c = 2 * n := by omega
      subst this
      exact hP hb
    have cc := i_nle cc
    rw [hN2, t_of (by omega)] at cc
    have hc2 : c < 2 * n := by omega
    rw [pl_behind hN (a := a) (by omega)]
    refine Pc.c (Pc.ok (P := fun r => r = if a &&& m = m then 1 else 0) rfl) (fun r er => ?_)
    by_cases hb : a &&& m = m
    rotate_left
    · rw [if_neg hb] at er
      subst er
      exact Pc.i (fun _ => fin (fun q => absurd q hb)) (fun q => absurd rfl q)
    rw [if_pos hb] at er
    subst er
    refine Pc.i (fun q => absurd q (by decide)) (fun _ => ?_)
    have e1 : Int32.ofNat c - Int32.ofNat c / (2 : Int32) * (2 : Int32) = Int32.ofNat (c % 2) := f_mod c (by omega)
    have e2 : Int32.ofNat c / (2 : Int32) = Int32.ofNat (c / 2) := f_half c (by omega)
    refine Pc.m ((Pc.self _).and (pl_reason hM (a := a) (c := c) (by omega) (by omega)).toPc) (fun M21 r20 p => ?_)
    obtain ⟨ep, h21, k21, pb⟩ := p
    rw [e1, e2] at ep
    have h21 : OKm (w2 g) M21 := h21
    have k21 : Keep N M21 := k21
    have N21 : NM n m M21 := hN.keep k21
    have R21 : row 136 M21 = row 136 N0 := (row_keep k21).trans hR
    have d21 : ∀ j, rd M21 (135 + 10) j = rd N (135 + 10) j := fun j => k21.1 _ _ (by unfold W1; omega)
    have l21 : ∀ j, rl M21 (135 + 12) j = rl N (135 + 12) j := fun j => k21.2 _ _
    have A21 : LOa n m N0 M21 (a + 1) := hA.of (fun _ _ _ _ => d21 _) (fun _ _ => l21 _)
    have P21 : LOp n N0 M21 a c := (hP hb).of (fun _ _ => d21 _) (fun _ _ => l21 _)
    have ca : (Int32.ofNat a).toNatClampNeg = a := c_of (by omega)
    have next : ∀ (o : Int32) (M30 : Mem), (o = 0 ∨ o = 1) → (o = 1 ↔ r20 = 0) → OKm (w2 g) M30 → (∀ k j, rd M30 k j = rd (wr M21 (135 + 10) (16 * a + c) o) k j) → (∀ b, b ≠ a → rl M30 (135 + 12) b = rl M21 (135 + 12) b) → rl M30 (135 + 12) a = (if o = 1 then rl M21 (135 + 12) a + rl M21 (135 + 12) (a ||| 2 ^ (c / 2)) else rl M21 (135 + 12) a) → Pc (bnd (Int32.ofNat c + (1 : Int32)) (fun x2_111 => mX7_layOrders_l30 135 ih5 fuel (Int32.ofNat a) x2_111 M30)) P := by
      intro o M30 ho ho2 h30 k30 l30 s30
      refine Pc.b (fun x ex => ?_)
      have e : x = Int32.ofNat (c + 1) := by rw [ex]; exact (Int32.ofNat_add c 1).symm
      rw [e]
      have q30 : ∀ j, rd M30 136 j = rd M21 136 j := fun j => by rw [k30]; exact rd_wk (by decide)
      have dn : ∀ j, j ≠ 16 * a + c → rd M30 (135 + 10) j = rd M21 (135 + 10) j := fun j hj => by rw [k30]; exact rd_wj hj
      have de : rd M30 (135 + 10) (16 * a + c) = o := by rw [k30]; exact rd_we
      have co : cnb M30 a c = true ↔ o = 1 := by
        unfold cnb
        rw [de]
        rcases ho with rfl | rfl <;> decide
      have cn : ∀ c', c' < c → cnb M30 a c' = cnb M21 a c' := fun c' hc' => by unfold cnb; rw [dn _ (by omega)]
      have bt0 : cnb M30 a c = true → a.testBit (c / 2) = false := fun z => pb (ho2.mp (co.mp z))
      refine IH (c + 1) M30 h30 ⟨(q30 0).trans N21.1, hn, (q30 52).trans N21.2.2.1, N21.2.2.2⟩ ((funext q30 : row 136 M30 = row 136 M21).trans R21) (A21.of (fun b' c' hb' hc' => dn _ (by omega)) (fun b' hb' => l30 b' (by omega))) (fun _ => ⟨fun c' hc' => ?_, ?_⟩) (by omega)
      · by_cases e : c' = c
        · subst e
          exact ⟨⟨N, (M21, r20), hR, ep, co.trans ho2⟩, bt0⟩
        · rw [cn c' (by omega)]
          exact P21.1 c' (by omega)
      · have olds : csum (if a = 2 ^ n - 1 then 1 else 0) (cnb M30 a) (fun c => rl M30 (135 + 12) (a ||| 2 ^ (c / 2))) c = rl M21 (135 + 12) a := by
          rw [P21.2]
          refine csum_eq c (fun c' hc' => cn c' hc') (fun c' hc' ho' => l30 _ ?_)
          have hbt := (P21.1 c' hc').2 ho'
          have hz := z_set n hn a ha (c' / 2) (by omega) hbt
          omega
        show _ = if cnb M30 a c = true then _ else _
        rw [olds, s30]
        by_cases z : o = 1
        · rw [if_pos z, if_pos (co.mpr z)]
          have hz := z_set n hn a ha (c / 2) (by omega) (bt0 (co.mpr z))
          show _ = _ + rl M30 (135 + 12) (a ||| 2 ^ (c / 2))
          rw [l30 _ (by omega)]
        · rw [if_neg z, if_neg (fun q => z (co.mp q))]
    refine Pc.i (fun q => ?_) (fun q => ?_)
    · have q : r20 = 0 := q
      have ht := pb q
      have hst := z_set n hn a ha (c / 2) (by omega) ht
      unfold mX7_layOrders_b69
      rw [show vp_nar .boolean (1 : Int32) = 1 from by decide, ix16c (by omega) (by omega)]
      refine Pc.k (fun _ => Pc.b (fun M25 e25 => Pc.k (fun _ => Pc.i (fun q => absurd q (by decide)) (fun _ => ?_))))
      rw [f_half c (by omega), f_or a (by omega) (c / 2) (by omega), c_of (a := a ||| 2 ^ (c / 2)) (by omega), ca]
      refine Pc.k (fun _ => ?_)
      unfold mX7_layOrders_b109
      rw [ca]
      refine Pc.k (fun _ => Pc.b (fun M30 e30 => ?_))
      have h25 : OKm (w2 g) M25 := by rw [e25]; exact okm_c2 h21 (by decide)
      refine next 1 M30 (Or.inr rfl) ⟨fun _ => q, fun _ => rfl⟩ (by rw [e30]; exact okm_l2 h25) (fun k j => by rw [e30, e25]; rfl) (fun b hb => by rw [e30, e25]; exact rl_wj hb) ?_
      rw [if_pos rfl, e30, e25]
      exact rl_we
    · unfold mX7_layOrders_b69
      rw [show vp_nar .boolean (0 : Int32) = 0 from by decide, ix16c (by omega) (by omega)]
      refine Pc.k (fun _ => Pc.b (fun M25 e25 => Pc.k (fun _ => Pc.i (fun _ => ?_) (fun q => absurd rfl q))))
      unfold mX7_layOrders_b109
      rw [ca]
      refine Pc.k (fun _ => Pc.b (fun M30 e30 => ?_))
      have h25 : OKm (w2 g) M25 := by rw [e25]; exact okm_c2 h21 (by decide)
      refine next 0 M30 (Or.inl rfl) ⟨fun z => absurd z (by decide), fun z => absurd z q⟩ (by rw [e30]; exact okm_l2 h25) (fun k j => by rw [e30, e25]; rfl) (fun b hb => by rw [e30, e25]; exact rl_wj hb) ?_
      rw [if_neg (by decide), e30, e25, rl_we]
      exact Int64.add_zero _
theorem lo_out : ∀ (fuel a : Nat) (x : Int32) (N : Mem), x.toInt = (a : Int) - 1 → a ≤ 2 ^ n → OKm (w2 g) N → NM n m N → row 136 N = row 136 N0 → LOa n m N0 N a → Pc (mX7_layOrders_l5 135 fuel x N) (fun q => OKm (w2 g) q.1 ∧ NM n m q.1 ∧ row 136 q.1 = row 136 N0 ∧ LOa n m N0 q.1 0) := by
  intro fuel
  induction fuel with
  | zero => intro a x N _ _ _ _ _ _ q e; cases e
  | succ fuel IH =>
    intro a x N hx ha hM hN hR hA
    have hn := hN.2.1
    have hp := z_pow n hn
    show Pc (mX7_layOrders_b5 135 (mX7_layOrders_l5 135 fuel) x N) _
    unfold mX7_layOrders_b5
    refine Pc.i (fun c => ?_) (fun c => ?_)
    · have c := i_lt.mp c
      rw [show ((0 : Int32)).toInt = 0 from rfl] at c
      have : a = 0 := by omega
      subst this
      exact Pc.ok ⟨hM, hN, hR, hA⟩
    · have c := i_nlt c
      rw [show ((0 : Int32)).toInt = 0 from rfl] at c
      obtain ⟨b, rfl⟩ : ∃ b, a = b + 1 := ⟨a - 1, by omega⟩
      have ex : x = Int32.ofNat b := by
        have := o_of (x := x) (by omega)
        rw [this]; congr 1; omega
      subst ex
      rw [pl_full hN]
      refine Pc.c (Pc.ok (P := fun r => r = Int32.ofNat (2 ^ n - 1)) rfl) (fun r er => ?_)
      subst er
      have cb : (Int32.ofNat b).toNatClampNeg = b := c_of (by omega)
      have go : ∀ v : Int64, (v = if b = 2 ^ n - 1 then 1 else 0) → Pc (mX7_layOrders_b27 135 (mX7_layOrders_l5 135 fuel) (Int32.ofNat b) (Int32.ofNat b) v N) (fun q => OKm (w2 g) q.1 ∧ NM n m q.1 ∧ row 136 q.1 = row 136 N0 ∧ LOa n m N0 q.1 0) := by
        intro v hv
        unfold mX7_layOrders_b27
        rw [cb]
        refine Pc.k (fun _ => Pc.b (fun M11 e11 => ?_))
        have r11 : ∀ k j, rd M11 k j = rd N k j := fun k j => by rw [e11]; rfl
        have h11 : OKm (w2 g) M11 := by rw [e11]; exact okm_l2 hM
        refine lo_in (g := g) (n := n) (m := m) (N0 := N0) (by omega) (fun M' h' N' R' A' => ?_) 5000 0 M11 h11 ⟨(r11 _ _).trans hN.1, hn, (r11 _ _).trans hN.2.2.1, hN.2.2.2⟩ ((funext (r11 136) : row 136 M11 = row 136 N).trans hR) (hA.of (fun _ _ _ _ => r11 _ _) (fun b' hb' => by rw [e11]; exact rl_wj (by omega))) (fun _ => ⟨fun c' h => by omega, ?_⟩) (by omega)
        · refine IH b _ M' ?_ (by omega) h' N' R' A'
          rw [i_add (by rw [t_of (by omega), show ((-1 : Int32)).toInt = -1 from rfl]; omega) (by rw [t_of (by omega), show ((-1 : Int32)).toInt = -1 from rfl]; omega), t_of (by omega)]
          rfl
        · rw [e11]
          exact rl_we.trans hv
      refine Pc.i (fun e => go 1 ?_) (fun e => go 0 ?_)
      · rw [if_pos (o_inj (by omega) (by omega) e)]
      · rw [if_neg (fun q => e (congrArg Int32.ofNat q))]
theorem pc_layOrders (h : OKm g N) (hN : NM n m N) : Pc (mX7_layOrders 135 N) (fun q => OKm (w2 g) q.1 ∧ NM n m q.1 ∧ row 136 q.1 = row 136 N ∧ LOa n m N q.1 0 ∧ Al n m q.1 0) := by
  have hp := z_pow n hN.2.1
  have key : Pc (mX7_layOrders 135 N) (fun q => OKm (w2 g) q.1 ∧ NM n m q.1 ∧ row 136 q.1 = row 136 N ∧ LOa n m N q.1 0) := by
    unfold mX7_layOrders
    rw [pl_full hN]
    refine Pc.c (Pc.ok (P := fun r => r = Int32.ofNat (2 ^ n - 1)) rfl) (fun r er => ?_)
    subst er
    exact lo_out 5000 (2 ^ n) _ N (by rw [t_of (by omega)]; omega) (by omega) h.w2 hN rfl (fun b h1 h2 => by omega)
  exact (key.and (sX7_layOrders' h hN).toPc).mono (fun q h => ⟨h.1.1, h.1.2.1, h.1.2.2.1, h.1.2.2.2, h.2.2.2⟩)
end LO
