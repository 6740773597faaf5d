/-! the reference lays its costs: what its tables say -/
def foldF (x0 : Int32) (o : Nat → Bool) (f : Int32 → Int32 → Int32) (t : Nat → Int32) : Nat → Int32
  | 0 => x0
  | c + 1 => if o c = true then f (foldF x0 o f t c) (t c) else foldF x0 o f t c
def cst (N : Mem) (a l c : Nat) : Int32 := (cstO N (Int32.ofNat a) (Int32.ofNat l) (Int32.ofNat c)).getD 0
def lowF (n : Nat) (N : Mem) (a l : Nat) (c : Nat) : Int32 := foldF (if a = 2 ^ n - 1 then 0 else 1000000) (cnb N a) imin (fun c => cst N a l c + rd N (135 + 13) (17 * (a ||| 2 ^ (c / 2)) + c)) c
def highF (n : Nat) (N : Mem) (a l : Nat) (c : Nat) : Int32 := foldF (if a = 2 ^ n - 1 then 0 else -1000000) (cnb N a) imax (fun c => cst N a l c + rd N (135 + 14) (17 * (a ||| 2 ^ (c / 2)) + c)) c
def GOk (N0 : Mem) (a c : Nat) (v : Int32) : Prop := ∃ N1 q1, row 136 N1 = row 136 N0 ∧ mX7_gaugeOf 135 (Int32.ofNat (c / 2)) (Int32.ofNat (c % 2)) (Int32.ofNat a) N1 = some q1 ∧ v = q1.2
def GOa (n : Nat) (N0 N : Mem) : Prop := ∀ a c, a < 2 ^ n → c < 2 * n → GOk N0 a c (rd N (135 + 11) (16 * a + c))
def CLp (n : Nat) (N : Mem) (a l : Nat) : Prop := rd N (135 + 13) (17 * a + l) = lowF n N a l (2 * n) ∧ rd N (135 + 14) (17 * a + l) = highF n N a l (2 * n)
def CLa (n m : Nat) (N : Mem) (a : Nat) : Prop := ∀ b, a ≤ b → b < 2 ^ n → b &&& m = m → ∀ l, VL n b l → CLp n N b l
/-- what stays while costs are laid -/
def CBx (n m : Nat) (N0 N : Mem) : Prop := NM n m N ∧ row 136 N = row 136 N0 ∧ LOa n m N0 N 0 ∧ GOa n N0 N
section CO2
variable {g : Gm} {n m a b c l : Nat} {N N' N0 : Mem} {P : Mem × Unit → Prop}
theorem foldF_eq {x0 : Int32} {o o' : Nat → Bool} {f : Int32 → Int32 → Int32} {t t' : Nat → Int32} : ∀ n, (∀ c, c < n → o' c = o c) → (∀ c, c < n → o c = true → t' c = t c) → foldF x0 o' f t' n = foldF x0 o f t n := by
  intro n
  induction n with
  | zero => intro _ _; rfl
  | succ n IH =>
    intro h1 h2
    show (if o' n = true then f (foldF x0 o' f t' n) (t' n) else foldF x0 o' f t' n) = (if o n = true then f (foldF x0 o f t n) (t n) else foldF x0 o f t n)
    rw [h1 n (by omega), IH (fun c hc => h1 c (by omega)) (fun c hc => h2 c (by omega))]
    by_cases q : o n = true
    · rw [if_pos q, if_pos q, h2 n (by omega) q]
    · rw [if_neg q, if_neg q]
/-- the costs of a set look at larger sets alone -/
theorem fold_of (hn : n < 9) (ha : a < 2 ^ n) (hL : LOp n N0 N a (2 * n)) (e1 : ∀ j, rd N' (135 + 1) j = rd N (135 + 1) j) (e10 : ∀ j, rd N' (135 + 10) j = rd N (135 + 10) j) (e11 : ∀ j, rd N' (135 + 11) j = rd N (135 + 11) j) (e13 : ∀ b c, a < b → c < 16 → rd N' (135 + 13) (17 * b + c) = rd N (135 + 13) (17 * b + c) ∧ rd N' (135 + 14) (17 * b + c) = rd N (135 + 14) (17 * b + c)) : lowF n N' a l (2 * n) = lowF n N a l (2 * n) ∧ highF n N' a l (2 * n) = highF n N a l (2 * n) := by
  have ec : ∀ c, cnb N' a c = cnb N a c := fun c => by unfold cnb; rw [e10]
  have es : ∀ c, cst N' a l c = cst N a l c := fun c => by unfold cst; rw [cst_same e1 e11]
  have st : ∀ c, c < 2 * n → cnb N a c = true → a < (a ||| 2 ^ (c / 2)) := fun c hc ho => (z_set n hn a ha (c / 2) (by omega) ((hL.1 c hc).2 ho)).2.1
  constructor
  · exact foldF_eq (2 * n) (fun c _ => ec c) (fun c hc ho => by rw [es, (e13 _ c (st c hc ho) (by omega)).1])
  · exact foldF_eq (2 * n) (fun c _ => ec c) (fun c hc ho => by rw [es, (e13 _ c (st c hc ho) (by omega)).2])
theorem CLp.of (h : CLp n N a l) (hn : n < 9) (ha : a < 2 ^ n) (hL : LOp n N0 N a (2 * n)) (e1 : ∀ j, rd N' (135 + 1) j = rd N (135 + 1) j) (e10 : ∀ j, rd N' (135 + 10) j = rd N (135 + 10) j) (e11 : ∀ j, rd N' (135 + 11) j = rd N (135 + 11) j) (e13 : ∀ b c, a < b → c < 16 → rd N' (135 + 13) (17 * b + c) = rd N (135 + 13) (17 * b + c) ∧ rd N' (135 + 14) (17 * b + c) = rd N (135 + 14) (17 * b + c)) (e : rd N' (135 + 13) (17 * a + l) = rd N (135 + 13) (17 * a + l) ∧ rd N' (135 + 14) (17 * a + l) = rd N (135 + 14) (17 * a + l)) : CLp n N' a l := by
  have q := fold_of (l := l) hn ha hL e1 e10 e11 e13
  exact ⟨e.1.trans (h.1.trans q.1.symm), e.2.trans (h.2.trans q.2.symm)⟩
theorem lc_in (hN : NM n m N) (ha : a < 2 ^ n) (hl : l ≤ 16) (hL : LOp n N0 N a (2 * n)) : ∀ (fuel c : Nat) (x3 x4 : Int32), x3 = lowF n N a l c → x4 = highF n N a l c → c ≤ 2 * n → Pc (mX7_layCost_l36 135 fuel (Int32.ofNat a) (Int32.ofNat l) x3 x4 (Int32.ofNat c) N) (fun q => q.1 = wr (wr N (135 + 13) (17 * a + l) (lowF n N a l (2 * n))) (135 + 14) (17 * a + l) (highF n N a l (2 * n))) := by
  intro fuel
  induction fuel with
  | zero => intro c x3 x4 _ _ _ q e; cases e
  | succ fuel IH =>
    intro c x3 x4 h3 h4 hc
    have hn := hN.2.1
    have hp := z_pow n hn
    show Pc (mX7_layCost_b36 135 (mX7_layCost_l36 135 fuel) (Int32.ofNat a) (Int32.ofNat l) x3 x4 (Int32.ofNat c) N) _
    unfold mX7_layCost_b36
    refine Pc.k (fun _ => Pc.i (fun cc => ?_) (fun cc => ?_))
    · have cc := i_le.mp cc
      rw [n2_of hN, t_of (by omega)] at cc
      have : c = 2 * n := by omega
      subst this
      refine Pc.k (fun _ => Pc.b (fun M13 e13 => Pc.k (fun _ => Pc.b (fun M16 e16 => Pc.ok ?_))))
      show M16 = _
      rw [e16, e13, ix17c (by omega) (by omega), h3, h4]
    · have cc := i_nle cc
      rw [n2_of hN, t_of (by omega)] at cc
      have hc2 : c < 2 * n := by omega
      have nx : ∀ y3 y4, y3 = lowF n N a l (c + 1) → y4 = highF n N a l (c + 1) → Pc (mX7_layCost_b165 135 (mX7_layCost_l36 135 fuel) (Int32.ofNat a) (Int32.ofNat l) y3 y4 (Int32.ofNat c) N) (fun q => q.1 = wr (wr N (135 + 13) (17 * a + l) (lowF n N a l (2 * n))) (135 + 14) (17 * a + l) (highF n N a l (2 * n))) := by
        intro y3 y4 q3 q4
        unfold mX7_layCost_b165
        refine Pc.b (fun x ex => ?_)
        have e : x = Int32.ofNat (c + 1) := by rw [ex]; exact (Int32.ofNat_add c 1).symm
        rw [e]
        exact IH (c + 1) y3 y4 q3 q4 (by omega)
      have el : lowF n N a l (c + 1) = if cnb N a c = true then imin (lowF n N a l c) (cst N a l c + rd N (135 + 13) (17 * (a ||| 2 ^ (c / 2)) + c)) else lowF n N a l c := rfl
      have eh : highF n N a l (c + 1) = if cnb N a c = true then imax (highF n N a l c) (cst N a l c + rd N (135 + 14) (17 * (a ||| 2 ^ (c / 2)) + c)) else highF n N a l c := rfl
      rw [ix16c (by omega) (by omega)]
      refine Pc.k (fun _ => Pc.i (fun q => ?_) (fun q => Pc.b (fun x6 e6 => ?_)))
      · have ho : ¬ cnb N a c = true := by
          unfold cnb
          rw [decide_eq_true q]; decide
        refine nx x3 x4 ?_ ?_
        · rw [el, if_neg ho]; exact h3
        · rw [eh, if_neg ho]; exact h4
      · have ho : cnb N a c = true := by
          unfold cnb
          rw [decide_eq_false q]; rfl
        have hz := z_set n hn a ha (c / 2) (by omega) ((hL.1 c hc2).2 ho)
        rw [f_half c (by omega)] at e6
        subst e6
        have b117 : ∀ v : Int32, cstO N (Int32.ofNat a) (Int32.ofNat l) (Int32.ofNat c) = some v → Pc (mX7_layCost_b117 135 (mX7_layCost_l36 135 fuel) (Int32.ofNat a) (Int32.ofNat l) x3 x4 (Int32.ofNat c) (Int32.ofNat (c / 2)) v N) (fun q => q.1 = wr (wr N (135 + 13) (17 * a + l) (lowF n N a l (2 * n))) (135 + 14) (17 * a + l) (highF n N a l (2 * n))) := by
          intro v hv
          have ev : cst N a l c = v := by unfold cst; rw [hv]; rfl
          unfold mX7_layCost_b117
          rw [f_or a (by omega) (c / 2) (by omega)]
          refine Pc.b (fun x8 e8 => ?_)
          subst e8
          rw [ix17c (by omega) (by omega)]
          refine Pc.k (fun _ => Pc.b (fun y3 e3 => Pc.k (fun _ => Pc.b (fun y4 e4 => nx y3 y4 ?_ ?_))))
          · rw [el, if_pos ho, e3, h3, ev]
          · rw [eh, if_pos ho, e4, h4, ev]
        refine Pc.i (fun e => b117 0 ?_) (fun e => Pc.c (Pc.self _) (fun r22 e22 => Pc.k (fun _ => Pc.c (Pc.self _) (fun r26 e26 => b117 r26 ?_))))
        · unfold cstO ite2
          rw [if_pos e]
        · unfold cstO ite2
          rw [← f_half c (by omega)] at e26
          rw [if_neg e, e22]
          show mX7_costBehind _ _ _ _ _ _ _ _ = _
          rw [ix16c (by omega) (by omega)]
          exact e26
theorem pc_layCost (hN : NM n m N) (ha : a < 2 ^ n) (hl : l ≤ 16) (hL : LOp n N0 N a (2 * n)) : Pc (mX7_layCost 135 (Int32.ofNat a) (Int32.ofNat l) N) (fun q => q.1 = wr (wr N (135 + 13) (17 * a + l) (lowF n N a l (2 * n))) (135 + 14) (17 * a + l) (highF n N a l (2 * n))) := by
  have hn := hN.2.1
  have hp := z_pow n hn
  unfold mX7_layCost mX7_layCost_b15 mX7_layCost_b31
  rw [pl_full hN]
  refine Pc.c (Pc.ok (P := fun r => r = Int32.ofNat (2 ^ n - 1)) rfl) (fun r er => ?_)
  subst er
  refine Pc.i (fun e => ?_) (fun e => ?_)
  · have e2 := o_inj (a := a) (by omega) (by omega) e
    refine Pc.c (Pc.ok (P := fun r => r = Int32.ofNat (2 ^ n - 1)) rfl) (fun r er => ?_)
    subst er
    refine Pc.i (fun _ => lc_in hN ha hl hL 5000 0 _ _ ?_ ?_ (by omega)) (fun z => absurd e z)
    · show _ = if a = 2 ^ n - 1 then _ else _
      rw [if_pos e2]
    · show _ = if a = 2 ^ n - 1 then _ else _
      rw [if_pos e2]
  · have e2 : ¬ a = 2 ^ n - 1 := fun q => e (congrArg Int32.ofNat q)
    refine Pc.c (Pc.ok (P := fun r => r = Int32.ofNat (2 ^ n - 1)) rfl) (fun r er => ?_)
    subst er
    refine Pc.i (fun z => absurd z e) (fun _ => lc_in hN ha hl hL 5000 0 _ _ ?_ ?_ (by omega))
    · show _ = if a = 2 ^ n - 1 then _ else _
      rw [if_neg e2]
    · show _ = if a = 2 ^ n - 1 then _ else _
      rw [if_neg e2]
/-- a cost written -/
theorem CBx.put {L H : Int32} {k1 k2 j1 j2 : Nat} (h : CBx n m N0 N) (h1 : k1 = 148 ∨ k1 = 149) (h2 : k2 = 148 ∨ k2 = 149) : CBx n m N0 (wr (wr N k1 j1 L) k2 j2 H) := by
  have e : ∀ k j, k ≠ 148 → k ≠ 149 → rd (wr (wr N k1 j1 L) k2 j2 H) k j = rd N k j := fun k j q1 q2 => by rw [rd_wk (by omega), rd_wk (by omega)]
  refine ⟨⟨(e _ _ (by decide) (by decide)).trans h.1.1, h.1.2.1, (e _ _ (by decide) (by decide)).trans h.1.2.2.1, h.1.2.2.2⟩, (funext (fun j => e 136 j (by decide) (by decide)) : row 136 _ = row 136 N).trans h.2.1, h.2.2.1.of (fun _ _ _ _ => e _ _ (by decide) (by decide)) (fun _ _ => rfl), fun a c ha hc => ?_⟩
  rw [e _ _ (by decide) (by decide)]
  exact h.2.2.2 a c ha hc
theorem ls_in (ha : a < 2 ^ n) {ih67 : Int32 → Mem → Option (Mem × Unit)} (H : ∀ N, CBx n m N0 N → CLa n m N a → Pc (ih67 (Int32.ofNat a + (-1 : Int32)) N) P) : ∀ (fuel l : Nat) (N : Mem), CBx n m N0 N → CLa n m N (a + 1) → (a &&& m = m → ∀ l', l' < l → VL n a l' → CLp n N a l') → l ≤ 17 → Pc (mX7_layCosts_l73 135 ih67 fuel (Int32.ofNat a) (Int32.ofNat l) N) P := by
  intro fuel
  induction fuel with
  | zero => intro l N _ _ _ _ q e; cases e
  | succ fuel IH =>
    intro l N hC hA hI hl
    have hN := hC.1
    have hn := hN.2.1
    have hp := z_pow n hn
    show Pc (mX7_layCosts_b73 135 ih67 (mX7_layCosts_l73 135 ih67 fuel) (Int32.ofNat a) (Int32.ofNat l) N) P
    have fin : (a &&& m = m → ∀ l', VL n a l' → CLp n N a l') → Pc (mX7_layCosts_b127 135 ih67 (Int32.ofNat a) N) P := by
      intro h
      unfold mX7_layCosts_b127
      refine Pc.b (fun x ex => ?_)
      rw [ex]
      refine H N hC (fun b hb hb2 hb3 => ?_)
      by_cases e : b = a
      · subst e; exact h hb3
      · exact hA b (by omega) hb2 hb3
    have nx : ∀ M', CBx n m N0 M' → CLa n m M' (a + 1) → (a &&& m = m → ∀ l', l' < l + 1 → VL n a l' → CLp n M' a l') → l < 17 → Pc (mX7_layCosts_b121 135 ih67 (mX7_layCosts_l73 135 ih67 fuel) (Int32.ofNat a) (Int32.ofNat l) M') P := by
      intro M' hC' hA' hI' hl'
      unfold mX7_layCosts_b121
      refine Pc.b (fun x ex => ?_)
      have e : x = Int32.ofNat (l + 1) := by rw [ex]; exact (Int32.ofNat_add l 1).symm
      rw [e]
      exact IH (l + 1) M' hC' hA' hI' (by omega)
    unfold mX7_layCosts_b73
    refine Pc.i (fun c => fin (fun hb l' hv => hI hb l' ?_ hv)) (fun c => ?_)
    · have c := i_le.mp c
      rw [t_of (by omega), show ((17 : Int32)).toInt = 17 from rfl] at c
      rcases hv with e | ⟨e, _⟩ <;> omega
    have c := i_nle c
    rw [t_of (by omega), show ((17 : Int32)).toInt = 17 from rfl] at c
    rw [pl_behind hN (a := a) (by omega)]
    refine Pc.c (Pc.ok (P := fun r => r = if a &&& m = m then 1 else 0) rfl) (fun r er => ?_)
    by_cases hb : a &&& m = m
    rotate_left
    · rw [if_neg hb] at er
      subst er
      exact Pc.i (fun _ => fin (fun q => absurd q hb)) (fun q => absurd rfl q)
    rw [if_pos hb] at er
    subst er
    refine Pc.i (fun q => absurd q (by decide)) (fun _ => ?_)
    have hLO := hC.2.2.1 a (by omega) ha hb
    have skip : (¬ VL n a l) → Pc (mX7_layCosts_b121 135 ih67 (mX7_layCosts_l73 135 ih67 fuel) (Int32.ofNat a) (Int32.ofNat l) N) P := by
      intro hv
      refine nx N hC hA (fun _ l' hl' hv' => ?_) (by omega)
      by_cases e : l' = l
      · subst e; exact absurd hv' hv
      · exact hI hb l' (by omega) hv'
    have lay : Pc (mX7_layCosts_b115 135 ih67 (mX7_layCosts_l73 135 ih67 fuel) (Int32.ofNat a) (Int32.ofNat l) N) P := by
      unfold mX7_layCosts_b115
      refine Pc.m (pc_layCost hN ha (by omega) hLO) (fun M21 _ e21 => ?_)
      have e21 : M21 = _ := e21
      have ek : ∀ k j, k ≠ 148 → k ≠ 149 → rd M21 k j = rd N k j := fun k j q1 q2 => by rw [e21, rd_wk (by omega), rd_wk (by omega)]
      have ej : ∀ j, j ≠ 17 * a + l → rd M21 (135 + 13) j = rd N (135 + 13) j ∧ rd M21 (135 + 14) j = rd N (135 + 14) j := fun j hj => ⟨by rw [e21, rd_wk (by decide), rd_wj hj], by rw [e21, rd_wj hj, rd_wk (by decide)]⟩
      have ef := fold_of (N' := M21) (l := l) hn ha hLO (fun j => ek _ j (by decide) (by decide)) (fun j => ek _ j (by decide) (by decide)) (fun j => ek _ j (by decide) (by decide)) (fun b c hb hc => ej _ (by omega))
      refine nx M21 (by rw [e21]; exact hC.put (Or.inl rfl) (Or.inr rfl)) (fun b hb1 hb2 hb3 l' hv' => ?_) (fun _ l' hl' hv' => ?_) (by omega)
      · have hl16 : l' ≤ 16 := by rcases hv' with e | ⟨e, _⟩ <;> omega
        exact (hA b hb1 hb2 hb3 l' hv').of hn hb2 (hC.2.2.1 b (by omega) hb2 hb3) (fun j => ek _ j (by decide) (by decide)) (fun j => ek _ j (by decide) (by decide)) (fun j => ek _ j (by decide) (by decide)) (fun b' c' h1 h2 => ej _ (by omega)) (ej _ (by omega))
      · by_cases e : l' = l
        · subst e
          constructor
          · rw [ef.1, e21, rd_wk (by decide), rd_we]
          · rw [ef.2, e21, rd_we]
        · exact (hI hb l' (by omega) hv').of hn ha hLO (fun j => ek _ j (by decide) (by decide)) (fun j => ek _ j (by decide) (by decide)) (fun j => ek _ j (by decide) (by decide)) (fun b' c' h1 h2 => ej _ (by omega)) (ej _ (by omega))
    refine Pc.i (fun e => lay) (fun e => Pc.k (fun _ => Pc.i (fun c2 => skip (fun hv => ?_)) (fun c2 => ?_)))
    · have c2 := i_le.mp c2
      rw [n2_of hN, t_of (by omega)] at c2
      rcases hv with q | ⟨q, _⟩
      · exact e (by rw [q]; rfl)
      · omega
    · have c2 := i_nle c2
      rw [n2_of hN, t_of (by omega)] at c2
      rw [f_half l (by omega)]
      unfold mX7_has
      by_cases t : a.testBit (l / 2) = true
      · have t2 := (f_has a (by omega) (l / 2) (by omega)).mpr t
        refine Pc.c (Q := fun r => r = 1) (Pc.i (fun _ => Pc.ok rfl) (fun z => absurd t2 z)) (fun r er => ?_)
        subst er
        exact Pc.i (fun q => absurd q (by decide)) (fun _ => lay)
      · have t2 := mt (f_has a (by omega) (l / 2) (by omega)).mp t
        refine Pc.c (Q := fun r => r = 0) (Pc.i (fun z => absurd z t2) (fun _ => Pc.ok rfl)) (fun r er => ?_)
        subst er
        refine Pc.i (fun _ => skip (fun hv => ?_)) (fun q => absurd rfl q)
        rcases hv with q | ⟨_, q⟩
        · exact e (by rw [q]; rfl)
        · exact t q
theorem ls_out : ∀ (fuel a : Nat) (x : Int32) (N : Mem), x.toInt = (a : Int) - 1 → a ≤ 2 ^ n → CBx n m N0 N → CLa n m N a → Pc (mX7_layCosts_l67 135 fuel x N) (fun q => CBx n m N0 q.1 ∧ CLa n m q.1 0) := by
  intro fuel
  induction fuel with
  | zero => intro a x N _ _ _ _ q e; cases e
  | succ fuel IH =>
    intro a x N hx ha hC hA
    have hp := z_pow n hC.1.2.1
    show Pc (mX7_layCosts_b67 135 (mX7_layCosts_l67 135 fuel) x N) _
    unfold mX7_layCosts_b67
    refine Pc.i (fun c => ?_) (fun c => ?_)
    · have c := i_lt.mp c
      rw [show ((0 : Int32)).toInt = 0 from rfl] at c
      have : a = 0 := by omega
      subst this
      exact Pc.ok ⟨hC, hA⟩
    · have c := i_nlt c
      rw [show ((0 : Int32)).toInt = 0 from rfl] at c
      obtain ⟨b, rfl⟩ : ∃ b, a = b + 1 := ⟨a - 1, by omega⟩
      have ex : x = Int32.ofNat b := by
        have := o_of (x := x) (by omega)
        rw [this]; congr 1; omega
      subst ex
      refine ls_in (n := n) (m := m) (N0 := N0) (by omega) (fun M' h' A' => ?_) 5000 0 N hC hA (fun _ l' h => absurd h (by omega)) (by omega)
      refine IH b _ M' ?_ (by omega) h' A'
      rw [i_add (by rw [t_of (by omega), show ((-1 : Int32)).toInt = -1 from rfl]; omega) (by rw [t_of (by omega), show ((-1 : Int32)).toInt = -1 from rfl]; omega), t_of (by omega)]
      rfl
/-- the gauges -/
def GBp (n : Nat) (N0 N : Mem) (a c : Nat) : Prop := ∀ b c', b < 2 ^ n → c' < 2 * n → (b < a ∨ (b = a ∧ c' < c)) → GOk N0 b c' (rd N (135 + 11) (16 * b + c'))
theorem lg_in (ha : a < 2 ^ n) {ih6 : Int32 → Mem → Option (Mem × Unit)} (H : ∀ N, OKm (w2 g) N → NM n m N → row 136 N = row 136 N0 → LOa n m N0 N 0 → GBp n N0 N (a + 1) 0 → Pc (ih6 (Int32.ofNat (a + 1)) N) P) : ∀ (fuel c : Nat) (N : Mem), OKm (w2 g) N → NM n m N → row 136 N = row 136 N0 → LOa n m N0 N 0 → GBp n N0 N a c → c ≤ 2 * n → Pc (mX7_layCosts_l16 135 ih6 fuel (Int32.ofNat a) (Int32.ofNat c) N) P := by
  intro fuel
  induction fuel with
  | zero => intro c N _ _ _ _ _ _ q e; cases e
  | succ fuel IH =>
    intro c N hM hN hR hL hG hc
    have hn := hN.2.1
    have hp := z_pow n hn
    show Pc (mX7_layCosts_b16 135 ih6 (mX7_layCosts_l16 135 ih6 fuel) (Int32.ofNat a) (Int32.ofNat c) N) P
    unfold mX7_layCosts_b16
    refine Pc.k (fun _ => Pc.i (fun cc => Pc.b (fun x ex => ?_)) (fun cc => ?_))
    · have e : x = Int32.ofNat (a + 1) := by rw [ex]; exact (Int32.ofNat_add a 1).symm
      have cc := i_le.mp cc
      rw [n2_of hN, t_of (by omega)] at cc
      rw [e]
      refine H N hM hN hR hL (fun b c' hb hc' hq => hG b c' hb hc' ?_)
      omega
    · have cc := i_nle cc
      rw [n2_of hN, t_of (by omega)] at cc
      rw [f_mod c (by omega), f_half c (by omega)]
      refine Pc.m ((Pc.self _).and (fr (R := fun _ => True) hM (fun g' h' => Sf.mono (sX7_gaugeOf h' (x1 := Int32.ofNat (c / 2)) (x2 := Int32.ofNat (c % 2)) (x3 := Int32.ofNat a) (by rw [t_of (by omega)]; omega) (by rw [t_of (by omega)]; omega) (by rw [t_of (by omega)]; omega)) (fun q hq => ⟨hq.1, trivial⟩))).toPc) (fun M34 r33 p => ?_)
      obtain ⟨ep, h34, k34, _⟩ := p
      have h34 : OKm (w2 g) M34 := h34
      have k34 : Keep N M34 := k34
      refine Pc.k (fun _ => Pc.b (fun M37 e37 => Pc.b (fun x ex => ?_)))
      have e : x = Int32.ofNat (c + 1) := by rw [ex]; exact (Int32.ofNat_add c 1).symm
      rw [e]
      rw [ix16c (by omega) (by omega)] at e37
      have kk : ∀ k j, k = 136 ∨ k = 145 ∨ k = 146 → rd M34 k j = rd N k j := fun k j hk => k34.1 k j (by unfold W1; omega)
      have k37 : ∀ k j, k = 136 ∨ k = 145 → rd M37 k j = rd N k j := fun k j hk => by rw [e37, rd_wk (by omega)]; exact kk k j (by omega)
      refine IH (c + 1) M37 (by rw [e37]; exact h34.put (b := bT) rfl (i_rng _)) ⟨(k37 _ _ (by omega)).trans hN.1, hn, (k37 _ _ (by omega)).trans hN.2.2.1, hN.2.2.2⟩ ((funext (fun j => k37 136 j (by omega)) : row 136 M37 = row 136 N).trans hR) (hL.of (fun _ _ _ _ => k37 _ _ (by omega)) (fun b' _ => by rw [e37]; exact k34.2 _ _)) (fun b c' hb hc' hq => ?_) (by omega)
      by_cases e : b = a ∧ c' = c
      · obtain ⟨rfl, rfl⟩ := e
        exact ⟨N, (M34, r33), hR, ep, by rw [e37]; exact rd_we⟩
      · rw [e37, rd_wj (by omega), kk _ _ (by omega)]
        exact hG b c' hb hc' (by omega)
theorem lg_out : ∀ (fuel a : Nat) (N : Mem), OKm (w2 g) N → NM n m N → row 136 N = row 136 N0 → LOa n m N0 N 0 → GBp n N0 N a 0 → a ≤ 2 ^ n → Pc (mX7_layCosts_l6 135 fuel (Int32.ofNat a) N) (fun q => CBx n m N0 q.1 ∧ CLa n m q.1 0) := by
  intro fuel
  induction fuel with
  | zero => intro a N _ _ _ _ _ _ q e; cases e
  | succ fuel IH =>
    intro a N hM hN hR hL hG ha
    have hn := hN.2.1
    have hp := z_pow n hn
    show Pc (mX7_layCosts_b6 135 (mX7_layCosts_l6 135 fuel) (Int32.ofNat a) N) _
    unfold mX7_layCosts_b6
    rw [pl_full hN]
    refine Pc.c (Pc.ok (P := fun r => r = Int32.ofNat (2 ^ n - 1)) rfl) (fun r er => ?_)
    subst er
    refine Pc.i (fun c => ?_) (fun c => ?_)
    · have c := i_lt.mp c
      rw [t_of (by omega), t_of (by omega)] at c
      refine Pc.c (Pc.ok (P := fun r => r = Int32.ofNat (2 ^ n - 1)) rfl) (fun r er => ?_)
      subst er
      exact ls_out 5000 (2 ^ n) _ N (by rw [t_of (by omega)]; omega) (by omega) ⟨hN, hR, hL, fun b c' hb hc' => hG b c' hb hc' (by omega)⟩ (fun b h1 h2 => by omega)
    · have c := i_nlt c
      rw [t_of (by omega), t_of (by omega)] at c
      exact lg_in (g := g) (n := n) (m := m) (N0 := N0) (by omega) (fun M' h1 h2 h3 h4 h5 => IH (a + 1) M' h1 h2 h3 h4 h5 (by omega)) 5000 0 N hM hN hR hL hG (by omega)
theorem pc_layCosts (h : OKm g N) (hN : NM n m N) : Pc (mX7_layCosts 135 N) (fun q => CBx n m N q.1 ∧ CLa n m q.1 0 ∧ Pl g n m q.1 ∧ Ald n m q.1 0) := by
  have hp := z_pow n hN.2.1
  have key : Pc (mX7_layCosts 135 N) (fun q => CBx n m N q.1 ∧ CLa n m q.1 0) := by
    unfold mX7_layCosts
    refine Pc.m (pc_layOrders h hN) (fun M3 _ p => ?_)
    obtain ⟨h3, N3, R3, L3, _⟩ := p
    exact lg_out (g := g) 5000 0 M3 h3 N3 R3 L3 (fun b c' hb hc' hq => by omega) (by omega)
  exact (key.and (sX7_layCosts' h hN).toPc).mono (fun q h => ⟨h.1.1, h.1.2, h.2.1, h.2.2⟩)
end CO2
