/-! each statement, read by both -/
section WS
variable {M N M0 N0 : Mem} {f : Nat → Int32} {w n i : Nat} {β : Type} {y : Option β} {R : Mem × Unit → β → Prop}
def cntW (w : Nat) : Nat := if w = 0 ∨ w = 10 then 3 else if 4 ≤ w ∧ w ≤ 8 then 2 else 1
theorem cntW_le : cntW w ≤ 3 := by
  unfold cntW
  split
  · omega
  · split <;> omega
theorem step_n (hw : w < 11) (hi : i < cntW w) (h : ∀ n' M', M' = wr M 3 i 0 → R2 (cal (mX4_nextToken 2 M') (fun M55 _ => cap (mX4_errorOfNumber 2 w 13 (Int32.ofNat i) M55) (fun r57 => chk (okb (Int32.ofNat i) 3) (bnd (wr M55 (2 + 1) (Int32.ofNat i).toNatClampNeg (rd M55 2 7)) (fun M61 => mX4_readStatement_b110v1 2 13 w (mX4_readStatement_l55v1 2 13 w n') r57 (Int32.ofNat i) M61))))) y R) : R2 (mX4_readStatement_l55v1 2 13 w n 0 (Int32.ofNat i) M) y R := by
  have h3 : i < 3 := by have := cntW_le (w := w); omega
  cases n with
  | zero => exact R2.nl
  | succ n =>
    show R2 (mX4_readStatement_b55v1 2 13 w (mX4_readStatement_l55v1 2 13 w n) 0 (Int32.ofNat i) M) y R
    unfold mX4_readStatement_b55v1
    have ti : (Int32.ofNat i).toInt = (i : Int) := t_of (by omega)
    have hc := c_of (a := i) (by omega)
    refine R2.il (fun c => ?_) (fun _ => R2.kl (fun _ => R2.bl (fun M46 e46 => R2.il (fun _ => ?_) (fun q => absurd rfl q))))
    · have c := i_le.mp c
      rw [ti, show ((3 : Int32)).toInt = 3 from rfl] at c
      exfalso; omega
    · have e : mX5_numberCount w M46 = some (Int32.ofNat (cntW w)) := nc_at w hw
      rw [e]
      refine R2.cl (Pc.self _) (fun r er => ?_)
      cases er
      refine R2.il (fun c => ?_) (fun _ => h n M46 (by rw [e46, hc]))
      have c := i_le.mp c
      have tc : (Int32.ofNat (cntW w)).toInt = (cntW w : Int) := t_of (by have := cntW_le (w := w); omega)
      rw [ti, tc] at c
      exfalso; omega
theorem step_z (hw : w < 11) (hi : cntW w ≤ i) (h3 : i < 3) (h : ∀ n' M', M' = wr M 3 i 0 → R2 (mX4_readStatement_l55v1 2 13 w n' 0 (Int32.ofNat (i + 1)) M') y R) : R2 (mX4_readStatement_l55v1 2 13 w n 0 (Int32.ofNat i) M) y R := by
  cases n with
  | zero => exact R2.nl
  | succ n =>
    show R2 (mX4_readStatement_b55v1 2 13 w (mX4_readStatement_l55v1 2 13 w n) 0 (Int32.ofNat i) M) y R
    unfold mX4_readStatement_b55v1
    have ti : (Int32.ofNat i).toInt = (i : Int) := t_of (by omega)
    have hc := c_of (a := i) (by omega)
    have go : ∀ M46, M46 = wr M (2 + 1) (Int32.ofNat i).toNatClampNeg 0 → R2 (mX4_readStatement_b110v1 2 13 w (mX4_readStatement_l55v1 2 13 w n) 0 (Int32.ofNat i) M46) y R := by
      intro M46 e46
      unfold mX4_readStatement_b110v1
      refine R2.bl (fun x hx => ?_)
      have ex : x = Int32.ofNat (i + 1) := hx.trans (Int32.ofNat_add i 1).symm
      rw [ex]
      exact h n M46 (by rw [e46, hc])
    refine R2.il (fun c => ?_) (fun _ => R2.kl (fun _ => R2.bl (fun M46 e46 => R2.il (fun _ => ?_) (fun q => absurd rfl q))))
    · have c := i_le.mp c
      rw [ti, show ((3 : Int32)).toInt = 3 from rfl] at c
      exfalso; omega
    · have e : mX5_numberCount w M46 = some (Int32.ofNat (cntW w)) := nc_at w hw
      rw [e]
      refine R2.cl (Pc.self _) (fun r er => ?_)
      cases er
      refine R2.il (fun _ => go M46 e46) (fun c => ?_)
      have c := i_nle c
      have tc : (Int32.ofNat (cntW w)).toInt = (cntW w : Int) := t_of (by have := cntW_le (w := w); omega)
      rw [ti, tc] at c
      exfalso; omega
theorem step_e (h : R2 (cal (mX4_nextToken 2 M) (fun M40 _ => cap (mX4_errorIfNot 2 (4 : Int32) (0 : Int32) M40) (fun r42 => mX4_readStatement_b131v1 2 13 w r42 M40))) y R) : R2 (mX4_readStatement_l55v1 2 13 w n 0 (Int32.ofNat 3) M) y R := by
  cases n with
  | zero => exact R2.nl
  | succ n =>
    show R2 (mX4_readStatement_b55v1 2 13 w (mX4_readStatement_l55v1 2 13 w n) 0 (Int32.ofNat 3) M) y R
    unfold mX4_readStatement_b55v1
    exact R2.il (fun _ => R2.il (fun _ => h) (fun q => absurd rfl q)) (fun q => absurd (by decide) q)
/-! accept -/
theorem tn_l2 : ∀ (n : Nat) (x : Int32), mX5_toolNumber_l2 w M n x = mX5_toolNumber_l2 w m0 n x := by
  intro n
  induction n with
  | zero => intro x; rfl
  | succ n IH =>
    intro x
    show mX5_toolNumber_b2 w M (mX5_toolNumber_l2 w M n) x = mX5_toolNumber_b2 w m0 (mX5_toolNumber_l2 w m0 n) x
    rw [show mX5_toolNumber_l2 w M n = mX5_toolNumber_l2 w m0 n from funext IH]
    rfl
theorem tn_M (hw : w < 11) : mX5_toolNumber w M = some (if 5 ≤ w ∧ w ≤ 9 then Int32.ofNat (w - 5) else -1) := by
  rw [← tn_at w hw]
  unfold mX5_toolNumber
  exact tn_l2 5000 0
abbrev A13 (k _ : Nat) : Prop := 13 ≤ k ∧ k ≤ 20
theorem acc_sheet : Pc (mX4_accept 2 0 13 M) (fun q => q.1 = wr (wr (wr M 13 3 (rd M 3 0)) 13 4 (rd M 3 1)) 13 5 (rd M 3 2)) := by
  unfold mX4_accept mX1_putSheet
  have e : mX5_toolNumber 0 M = some (-1) := (tn_M (by decide)).trans (by decide)
  rw [e]
  refine Pc.c (Pc.self _) (fun r er => ?_)
  cases er
  refine Pc.i (fun _ => Pc.i (fun _ => Pc.k (fun _ => Pc.k (fun _ => Pc.k (fun _ => Pc.m (Pc.self _) (fun M1 _ e1 => ?_))))) (fun q => absurd rfl q)) (fun q => absurd rfl q)
  cases e1
  exact Pc.ok rfl
theorem acc_cost : Pc (mX4_accept 2 10 13 M) (fun q => q.1 = wr (wr (wr M 13 7 (rd M 3 0)) 13 8 (rd M 3 1)) 13 9 (rd M 3 2)) := by
  unfold mX4_accept mX1_putCosts
  have e : mX5_toolNumber 10 M = some (-1) := (tn_M (by decide)).trans (by decide)
  rw [e]
  refine Pc.c (Pc.self _) (fun r er => ?_)
  cases er
  refine Pc.i (fun _ => Pc.i (fun q => absurd q (by decide)) (fun _ => Pc.i (fun _ => Pc.k (fun _ => Pc.k (fun _ => Pc.k (fun _ => Pc.m (Pc.self _) (fun M1 _ e1 => ?_))))) (fun q => absurd rfl q))) (fun q => absurd rfl q)
  cases e1
  exact Pc.ok rfl
theorem pc_putTool {k t : Nat} {a b : Int32} (ht : t < 5) : Pc (mX1_putTool k (Int32.ofNat t) a b M) (fun q => q.1 = wr (wr M (k + 2) (2 * t) a) (k + 2) (2 * t + 1) b) := by
  unfold mX1_putTool
  have tt : (Int32.ofNat t).toInt = (t : Int) := t_of (by omega)
  have e2 := i_mulc (a := (2 : Int32)) (b := Int32.ofNat t) (c := 2) rfl (by omega) (by omega)
  have n1 : ((1 : Int32)).toInt = 1 := rfl
  have e3 := i_add (a := (2 : Int32) * Int32.ofNat t) (b := 1) (by omega) (by omega)
  refine Pc.i (fun c => ?_) (fun _ => Pc.i (fun c => ?_) (fun _ => Pc.k (fun _ => Pc.b (fun M5 e5 => Pc.k (fun _ => Pc.b (fun M8 e8 => Pc.ok ?_))))))
  · have c := i_lt.mp c
    rw [tt, show ((0 : Int32)).toInt = 0 from rfl] at c
    exfalso; omega
  · have c := i_le.mp c
    rw [tt, show ((5 : Int32)).toInt = 5 from rfl] at c
    exfalso; omega
  · rw [i_clamp, show ((2 : Int32) * Int32.ofNat t).toInt.toNat = 2 * t by omega] at e5
    rw [i_clamp, show ((2 : Int32) * Int32.ofNat t + 1).toInt.toNat = 2 * t + 1 by omega] at e8
    show M8 = _
    rw [e8, e5]
theorem acc_tool {t : Nat} (ht : t < 5) : Pc (mX4_accept 2 (5 + t) 13 M) (fun q => q.1 = wr (wr M 15 (2 * t) (rd M 3 0)) 15 (2 * t + 1) (rd M 3 1)) := by
  unfold mX4_accept
  have e : mX5_toolNumber (5 + t) M = some (Int32.ofNat t) := by
    have h := tn_M (w := 5 + t) (M := M) (by omega)
    rw [if_pos (by omega), show 5 + t - 5 = t by omega] at h
    exact h
  rw [e]
  refine Pc.c (Pc.self _) (fun r er => ?_)
  cases er
  have tt : (Int32.ofNat t).toInt = (t : Int) := t_of (by omega)
  refine Pc.i (fun q => ?_) (fun _ => Pc.k (fun _ => Pc.k (fun _ => Pc.m (pc_putTool ht) (fun M1 _ e1 => Pc.ok e1))))
  have q := congrArg Int32.toInt q
  rw [tt, show ((-1 : Int32)).toInt = -1 from rfl] at q
  exfalso; omega
theorem acc_back {m : Nat} (hm : (rd M 13 10).toInt = (m : Int)) (h8 : m < 8) : Pc (mX4_accept 2 4 13 M) (fun q => q.1 = wr (wr (wr M 16 m (rd M 3 0)) 17 m (rd M 3 1)) 13 10 (rd M 13 10 + 1)) := by
  unfold mX4_accept mX1_addBack
  have e : mX5_toolNumber 4 M = some (-1) := (tn_M (by decide)).trans (by decide)
  rw [e]
  refine Pc.c (Pc.self _) (fun r er => ?_)
  cases er
  refine Pc.i (fun _ => Pc.i (fun q => absurd q (by decide)) (fun _ => Pc.i (fun q => absurd q (by decide)) (fun _ => Pc.i (fun _ => Pc.k (fun _ => Pc.k (fun _ => Pc.m (Q := fun q => q.1 = wr (wr (wr M 16 m (rd M 3 0)) 17 m (rd M 3 1)) 13 10 (rd M 13 10 + 1)) ?_ (fun M1 _ e1 => Pc.ok e1)))) (fun q => absurd rfl q)))) (fun q => absurd rfl q)
  refine Pc.i (fun c => ?_) (fun _ => Pc.k (fun _ => Pc.b (fun M4 e4 => Pc.k (fun _ => Pc.b (fun M7 e7 => Pc.b (fun M8 e8 => Pc.ok ?_))))))
  · have c := i_le.mp c
    rw [hm, show ((8 : Int32)).toInt = 8 from rfl] at c
    exfalso; omega
  · rw [i_clamp, show (rd M 13 10).toInt.toNat = m by omega] at e4
    have e4 : M4 = wr M 16 m (rd M 3 0) := e4
    have r4 : rd M4 13 10 = rd M 13 10 := by rw [e4]; exact rd_wk (by decide)
    rw [r4, i_clamp, show (rd M 13 10).toInt.toNat = m by omega] at e7
    have e7 : M7 = wr M4 17 m (rd M 3 1) := e7
    have r7 : rd M7 13 10 = rd M 13 10 := by rw [e7, rd_wk (by decide)]; exact r4
    rw [r7] at e8
    show M8 = _
    rw [e8, e7, e4]
theorem acc_leg {m : Nat} (hw : w = 1 ∨ w = 2 ∨ w = 3) (hm : (rd M 13 0).toInt = (m : Int)) (h9 : m < 9) : Pc (mX4_accept 2 w 13 M) (fun q => ∀ k j, rd q.1 k j = rd (wr (wr (wr M 14 m (rd M 3 0)) 13 2 (if 0 < m ∧ w = 2 then rd M 13 2 ||| ((1 : Int32) <<< ((rd M 13 0 - 1) &&& 31)) else rd M 13 2)) 13 0 (rd M 13 0 + 1)) k j) := by
  unfold mX4_accept mX4_accept_b139 mX1_addLeg mX1_addLeg_b47
  have e : mX5_toolNumber w M = some (-1) := by
    have h := tn_M (w := w) (M := M) (by omega)
    rw [if_neg (by omega)] at h
    exact h
  rw [e]
  refine Pc.c (Pc.self _) (fun r er => ?_)
  cases er
  have go : ∀ x2 : Int32, (x2 = 0 ↔ ¬ w = 2) → Pc (ite2 ((9 : Int32) ≤ (rd M 13 0)) (some (M, ())) (chk (okb (rd M 13 0) 9) (bnd (wr M (13 + 1) ((rd M 13 0)).toNatClampNeg (rd M (2 + 1) ((0 : Int32)).toNatClampNeg)) (fun M4 => ite2 ((rd M4 13 0) ≤ 0) (bnd (wr M4 13 0 ((rd M4 13 0) + (1 : Int32))) (fun M6 => some (M6, ()))) (ite2 (x2 = 0) (bnd (wr M4 13 0 ((rd M4 13 0) + (1 : Int32))) (fun M6 => some (M6, ()))) (bnd (wr M4 13 2 ((rd M4 13 2) ||| ((1 : Int32) <<< (((rd M4 13 0) - (1 : Int32)) &&& 31)))) (fun M9 => (bnd (wr M9 13 0 ((rd M9 13 0) + (1 : Int32))) (fun M6 => some (M6, ())))))))))) (fun q : Mem × Unit => ∀ k j, rd q.1 k j = rd (wr (wr (wr M 14 m (rd M 3 0)) 13 2 (if 0 < m ∧ w = 2 then rd M 13 2 ||| ((1 : Int32) <<< ((rd M 13 0 - 1) &&& 31)) else rd M 13 2)) 13 0 (rd M 13 0 + 1)) k j) := by
    intro x2 hx
    refine Pc.i (fun c => ?_) (fun _ => Pc.k (fun _ => Pc.b (fun M4 e4 => ?_)))
    · have c := i_le.mp c
      rw [hm, show ((9 : Int32)).toInt = 9 from rfl] at c
      exfalso; omega
    · rw [i_clamp, show (rd M 13 0).toInt.toNat = m by omega] at e4
      have e4 : M4 = wr M 14 m (rd M 3 0) := e4
      have r0 : rd M4 13 0 = rd M 13 0 := by rw [e4]; exact rd_wk (by decide)
      have r2 : rd M4 13 2 = rd M 13 2 := by rw [e4]; exact rd_wk (by decide)
      have same : ¬ (0 < m ∧ w = 2) → Pc (bnd (wr M4 13 0 ((rd M4 13 0) + (1 : Int32))) (fun M6 => some (M6, ()))) (fun q : Mem × Unit => ∀ k j, rd q.1 k j = rd (wr (wr (wr M 14 m (rd M 3 0)) 13 2 (if 0 < m ∧ w = 2 then rd M 13 2 ||| ((1 : Int32) <<< ((rd M 13 0 - 1) &&& 31)) else rd M 13 2)) 13 0 (rd M 13 0 + 1)) k j) := by
        intro hn
        refine Pc.b (fun M6 e6 => Pc.ok (fun k j => ?_))
        show rd M6 k j = _
        rw [e6, r0, if_neg hn, rd_eq, rd_eq, rd_eq, ← e4]
        by_cases q : k = 13 ∧ j = 2
        · obtain ⟨rfl, rfl⟩ := q
          rw [if_neg (by decide), if_neg (by decide), if_pos (by decide)]; exact r2
        · rw [if_neg q]
      rw [r0]
      refine Pc.i (fun c => ?_) (fun c => Pc.i (fun c2 => ?_) (fun c2 => ?_))
      · have c := i_le.mp c
        rw [hm, show ((0 : Int32)).toInt = 0 from rfl] at c
        have := same (by omega)
        rw [r0] at this
        exact this
      · have := same (fun q => (hx.mp c2) q.2)
        rw [r0] at this
        exact this
      · have c := i_nle c
        rw [hm, show ((0 : Int32)).toInt = 0 from rfl] at c
        have h2 : 0 < m ∧ w = 2 := ⟨by omega, Decidable.byContradiction (fun q => c2 (hx.mpr q))⟩
        refine Pc.b (fun M9 e9 => Pc.b (fun M6 e6 => Pc.ok (fun k j => ?_)))
        have r9 : rd M9 13 0 = rd M 13 0 := by rw [e9, rd_wj (by decide)]; exact r0
        show rd M6 k j = _
        rw [e6, r9, e9, r2, if_pos h2, e4]
  refine Pc.i (fun _ => Pc.i (fun q => by omega) (fun _ => Pc.i (fun q => by omega) (fun _ => Pc.i (fun q => by omega) (fun _ => Pc.k (fun _ => Pc.i (fun c => ?_) (fun c => ?_)))))) (fun q => absurd rfl q)
  · exact Pc.m (go 1 ⟨fun q => absurd q (by decide), fun q => absurd c q⟩) (fun M1 _ e1 => Pc.ok e1)
  · exact Pc.m (go 0 ⟨fun _ => c, fun _ => rfl⟩) (fun M1 _ e1 => Pc.ok e1)
end WS

