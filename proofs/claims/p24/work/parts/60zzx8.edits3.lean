/-! setTool, unfold, undo: alike -/
section ED3
variable {g : Gm} {k n m a b s c l e t : Nat} {M M' N N' N0 : Mem} {x x1 x2 x3 y1 y2 y3 v : Int32} {f f' : Nat → Int32}
def PT (t : Nat) (x2 x3 : Int32) : Prop := (0 ≤ x2.toInt ∧ x2.toInt ≤ 9999) ∧ (t ≤ 2 → 0 ≤ x3.toInt ∧ x3.toInt ≤ 9999) ∧ (t = 3 → x2.toInt ≤ x3.toInt ∧ x3.toInt ≤ 9999) ∧ (t = 4 → x3 = 0)
theorem pc_told (ht : t < 5) : Pc (mX7_areTold (Int32.ofNat t) x2 x3 N) (fun r => (r = 1 ∧ PT t x2 x3) ∨ (r = 0 ∧ ¬ PT t x2 x3)) := by
  unfold mX7_areTold mX7_areTold_b48
  have l0 : ((0 : Int64)).toInt = 0 := rfl
  have l9 : ((9999 : Int64)).toInt = 9999 := rfl
  refine Pc.c (pc_btw (Int32.toInt_toInt64 x2) l0 l9) (fun r2 p2 => Pc.i (fun c => Pc.ok (Or.inr ⟨rfl, fun z => ?_⟩)) (fun c => ?_))
  · rcases p2 with ⟨e, _⟩ | ⟨_, q⟩
    · rw [e] at c; exact absurd c (by decide)
    · exact q z.1
  have h2 : 0 ≤ x2.toInt ∧ x2.toInt ≤ 9999 := by
    rcases p2 with ⟨_, q⟩ | ⟨e, _⟩
    · exact q
    · exact absurd e c
  have tt : (Int32.ofNat t).toInt = (t : Int) := t_of (by omega)
  have lowt : t ≤ 2 → Pc (cap (mX7_between (x3).toInt64 (0 : Int64) (9999 : Int64) N) (fun r7 => chk (isB r7) (some r7))) (fun r => (r = 1 ∧ PT t x2 x3) ∨ (r = 0 ∧ ¬ PT t x2 x3)) := by
    intro h
    refine Pc.c (pc_btw (Int32.toInt_toInt64 x3) l0 l9) (fun r p => Pc.k (fun _ => Pc.ok ?_))
    rcases p with ⟨e, q⟩ | ⟨e, q⟩
    · exact Or.inl ⟨e, h2, fun _ => q, fun z => by omega, fun z => by omega⟩
    · exact Or.inr ⟨e, fun z => q (z.2.1 h)⟩
  have ne : ∀ d : Nat, d < 5 → ¬ t = d → ¬ Int32.ofNat t = Int32.ofNat d := fun d hd h z => h (o_inj (by omega) (by omega) z)
  have eq : ∀ d : Nat, d < 5 → Int32.ofNat t = Int32.ofNat d → t = d := fun d hd z => o_inj (by omega) (by omega) z
  refine Pc.i (fun z => lowt (by have := eq 0 (by omega) z; omega)) (fun z0 => Pc.i (fun z => lowt (by have := eq 1 (by omega) z; omega)) (fun z1 => Pc.i (fun z => lowt (by have := eq 2 (by omega) z; omega)) (fun z2 => Pc.i (fun z => ?_) (fun z3 => Pc.i (fun z => Pc.i (fun w => Pc.ok (Or.inl ⟨rfl, h2, fun q => ?_, fun q => ?_, fun _ => w⟩)) (fun w => Pc.ok (Or.inr ⟨rfl, fun q => w (q.2.2.2 (eq 4 (by omega) z))⟩))) (fun z4 => ?_)))))
  · have e3 := eq 3 (by omega) z
    refine Pc.c (pc_btw (Int32.toInt_toInt64 x3) (Int32.toInt_toInt64 x2) l9) (fun r p => Pc.k (fun _ => Pc.ok ?_))
    rcases p with ⟨e, q⟩ | ⟨e, q⟩
    · exact Or.inl ⟨e, h2, fun z => by omega, fun _ => q, fun z => by omega⟩
    · exact Or.inr ⟨e, fun z => q (z.2.2.1 e3)⟩
  · have := eq 4 (by omega) z; omega
  · have := eq 4 (by omega) z; omega
  · exfalso
    have : t = 0 ∨ t = 1 ∨ t = 2 ∨ t = 3 ∨ t = 4 := by omega
    rcases this with rfl | rfl | rfl | rfl | rfl
    · exact z0 rfl
    · exact z1 rfl
    · exact z2 rfl
    · exact z3 rfl
    · exact z4 rfl
theorem tool_c {β : Type} {y : Option β} {R : Mem × (Int32 ⊕ Nat) → β → Prop} (ht : t < 5) (h1 : PT t x2 x3 → R2 (cal (mX0_remember 21 5 M) (fun M16 _ => chk (okb ((2 : Int32) * Int32.ofNat t) 10) (bnd ((rd M16 (5 + 2) (((2 : Int32) * Int32.ofNat t)).toNatClampNeg)) (fun x5_65 => cal (mX1_putTool 5 (Int32.ofNat t) x2 x3 M16) (fun M21 _ => some (M21, Sum.inl x5_65)))))) y R) (h0 : ¬ PT t x2 x3 → R2 (some (M, Sum.inr 0)) y R) : R2 (mX6_setTool 0 (Int32.ofNat t) x2 x3 M) y R := by
  have beh : ∀ (w : Nat) (hi : Int), (wF2.getD w 0).toInt = hi → Pc (mX5_allowsBehind w x2 (1 : Int32) x3 M) (fun r => (r = 1 ∧ (0 ≤ x3.toInt ∧ x3.toInt ≤ hi) ∧ (w = 8 → x2.toInt ≤ x3.toInt)) ∨ (r = 0 ∧ ¬ ((0 ≤ x3.toInt ∧ x3.toInt ≤ hi) ∧ (w = 8 → x2.toInt ≤ x3.toInt)))) := by
    intro w hi e
    unfold mX5_allowsBehind mX5_allowsBehind_b21
    refine Pc.c (pc_a1 (w := w) e) (fun r2 p2 => Pc.i (fun c => Pc.ok (Or.inr ⟨rfl, fun z => ?_⟩)) (fun c => ?_))
    · rcases p2 with ⟨e, _⟩ | ⟨_, q⟩
      · rw [e] at c; exact absurd c (by decide)
      · exact q z.1
    have h2 : 0 ≤ x3.toInt ∧ x3.toInt ≤ hi := by
      rcases p2 with ⟨_, q⟩ | ⟨e, _⟩
      · exact q
      · exact absurd e c
    refine Pc.i (fun w8 => Pc.i (fun z => Pc.ok (Or.inr ⟨rfl, fun q => ?_⟩)) (fun z => Pc.ok (Or.inl ⟨rfl, h2, fun _ => ?_⟩))) (fun w8 => Pc.ok (Or.inl ⟨rfl, h2, fun q => absurd q w8⟩))
    · have z := i_lt.mp z
      have := q.2 w8
      omega
    · have z := i_nlt z
      omega
  have core : ∀ (w : Nat) (hi : Int), (wF0.getD w 0).toInt = 0 → (wF1.getD w 0).toInt = 9999 → (wF2.getD w 0).toInt = hi → (PT t x2 x3 ↔ (0 ≤ x2.toInt ∧ x2.toInt ≤ 9999) ∧ (0 ≤ x3.toInt ∧ x3.toInt ≤ hi) ∧ (w = 8 → x2.toInt ≤ x3.toInt)) → R2 (chk (decide (w < 11)) (cap (mX5_allows w (0 : Int32) x2 M) (fun r7 => ite2 (r7 = 0) (some (M, Sum.inr 0)) (cap (mX5_allowsBehind w x2 (1 : Int32) x3 M) (fun r11 => ite2 (r11 = 0) (some (M, Sum.inr 0)) (cal (mX0_remember 21 5 M) (fun M16 _ => chk (okb ((2 : Int32) * Int32.ofNat t) 10) (bnd ((rd M16 (5 + 2) (((2 : Int32) * Int32.ofNat t)).toNatClampNeg)) (fun x5_65 => cal (mX1_putTool 5 (Int32.ofNat t) x2 x3 M16) (fun M21 _ => some (M21, Sum.inl x5_65))))))))))) y R := by
    intro w hi e0 e1 e2 hP
    refine R2.kl (fun _ => R2.cl (pc_a0 (w := w) e0 e1) (fun r7 p7 => R2.il (fun c => h0 (fun z => ?_)) (fun c => R2.cl (beh w hi e2) (fun r11 p11 => R2.il (fun c2 => h0 (fun z => ?_)) (fun c2 => h1 (hP.mpr ?_))))))
    · rcases p7 with ⟨e, _⟩ | ⟨_, q⟩
      · rw [e] at c; exact absurd c (by decide)
      · exact q (hP.mp z).1
    · rcases p11 with ⟨e, _⟩ | ⟨_, q⟩
      · rw [e] at c2; exact absurd c2 (by decide)
      · exact q (hP.mp z).2
    · have a7 : 0 ≤ x2.toInt ∧ x2.toInt ≤ 9999 := by
        rcases p7 with ⟨_, q⟩ | ⟨e, _⟩
        · exact q
        · exact absurd e c
      have a11 : (0 ≤ x3.toInt ∧ x3.toInt ≤ hi) ∧ (w = 8 → x2.toInt ≤ x3.toInt) := by
        rcases p11 with ⟨_, q⟩ | ⟨e, _⟩
        · exact q
        · exact absurd e c2
      exact ⟨a7, a11⟩
  have n0 : ((0 : Int32)).toInt = 0 := rfl
  unfold mX6_setTool mX6_setTool_b32
  have : t = 0 ∨ t = 1 ∨ t = 2 ∨ t = 3 ∨ t = 4 := by omega
  rcases this with rfl | rfl | rfl | rfl | rfl
  · refine R2.cl (Q := fun r => r = some 5) (Pc.ok rfl) (fun r e => ?_)
    rw [e]
    exact core 5 9999 rfl rfl rfl ⟨fun h => ⟨h.1, h.2.1 (by omega), fun z => by omega⟩, fun h => ⟨h.1, fun _ => h.2.1, fun z => by omega, fun z => by omega⟩⟩
  · refine R2.cl (Q := fun r => r = some 6) (Pc.ok rfl) (fun r e => ?_)
    rw [e]
    exact core 6 9999 rfl rfl rfl ⟨fun h => ⟨h.1, h.2.1 (by omega), fun z => by omega⟩, fun h => ⟨h.1, fun _ => h.2.1, fun z => by omega, fun z => by omega⟩⟩
  · refine R2.cl (Q := fun r => r = some 7) (Pc.ok rfl) (fun r e => ?_)
    rw [e]
    exact core 7 9999 rfl rfl rfl ⟨fun h => ⟨h.1, h.2.1 (by omega), fun z => by omega⟩, fun h => ⟨h.1, fun _ => h.2.1, fun z => by omega, fun z => by omega⟩⟩
  · refine R2.cl (Q := fun r => r = some 8) (Pc.ok rfl) (fun r e => ?_)
    rw [e]
    exact core 8 9999 rfl rfl rfl ⟨fun h => ⟨h.1, by have := h.2.2.1 rfl; have := h.1; omega, fun _ => (h.2.2.1 rfl).1⟩, fun h => ⟨h.1, fun z => by omega, fun _ => ⟨h.2.2 rfl, h.2.1.2⟩, fun z => by omega⟩⟩
  · refine R2.cl (Q := fun r => r = some 9) (Pc.ok rfl) (fun r e => ?_)
    rw [e]
    refine core 9 0 rfl rfl rfl ⟨fun h => ⟨h.1, ?_, fun z => by omega⟩, fun h => ⟨h.1, fun z => by omega, fun z => by omega, fun _ => i_eq.mpr ?_⟩⟩
    · rw [h.2.2.2 rfl, n0]; omega
    · rw [n0]; have := h.2.1; omega
theorem setTool_RR (h : SS M N) : R2 (mX6_setTool 0 x1 x2 x3 M) (mX7_setTool 135 x1 x2 x3 N) (fun p q => XR (fun _ => 1) p q ∧ SS p.1 q.1) := by
  have n0 : ((0 : Int32)).toInt = 0 := rfl
  unfold mX7_setTool
  by_cases hx : 0 ≤ x1.toInt ∧ x1.toInt ≤ 4
  · obtain ⟨t, ht, et⟩ : ∃ t : Nat, t < 5 ∧ x1 = Int32.ofNat t := ⟨x1.toInt.toNat, by omega, o_of hx.1⟩
    subst et
    have tt : (Int32.ofNat t).toInt = (t : Int) := t_of (by omega)
    have n39 : ((39 : Int32)).toInt = 39 := rfl
    have n1 : ((1 : Int32)).toInt = 1 := rfl
    have m2 := i_mulc (a := (2 : Int32)) (b := Int32.ofNat t) (c := 2) rfl (by omega) (by omega)
    have e39 : ((39 : Int32) + (2 : Int32) * Int32.ofNat t).toInt = 39 + 2 * (t : Int) := by rw [i_add (by omega) (by omega)]; omega
    have c39 : ((39 : Int32) + (2 : Int32) * Int32.ofNat t).toNatClampNeg = 39 + 2 * t := by rw [i_clamp, e39]; omega
    have c40 : (((39 : Int32) + (2 : Int32) * Int32.ofNat t) + (1 : Int32)).toNatClampNeg = 40 + 2 * t := by rw [i_clamp, i_add (by omega) (by omega), e39]; omega
    have c2t : ((2 : Int32) * Int32.ofNat t).toNatClampNeg = 2 * t := by rw [i_clamp, m2]; omega
    have c2t1 : ((2 : Int32) * Int32.ofNat t + (1 : Int32)).toNatClampNeg = 2 * t + 1 := by rw [i_clamp, i_add (by omega) (by omega), m2]; omega
    refine R2.cr (pc_told ht) (fun r2 p2 => tool_c ht (fun hp => ?_) (fun hp => ?_))
    · have e2 : ¬ r2 = 0 := by
        rcases p2 with ⟨e, _⟩ | ⟨_, q⟩
        · rw [e]; decide
        · exact absurd hp q
      refine R2.ok1 e2 ?_
      intro p q hp' hq
      obtain ⟨N10, r9, u1, u2⟩ := cal_s hq
      have u2 := (chk_s u2).2
      obtain ⟨N13, e13, u2⟩ := bnd_s u2
      cases u2
      rw [c40] at e13
      refine R2.set (i := (39 : Int32) + (2 : Int32) * Int32.ofNat t) (v := x2) (K := fun M16 => chk (okb ((2 : Int32) * Int32.ofNat t) 10) (bnd ((rd M16 (5 + 2) (((2 : Int32) * Int32.ofNat t)).toNatClampNeg)) (fun x5_65 => cal (mX1_putTool 5 (Int32.ofNat t) x2 x3 M16) (fun M21 _ => some (M21, Sum.inl x5_65))))) (R := fun p q => XR (fun _ => 1) p (wr q.1 136 (40 + 2 * t) x3, q.2) ∧ SS p.1 (wr q.1 136 (40 + 2 * t) x3)) h.th (fun M3 N3 hS hc er e5' => ?_) p (N10, r9) hp' u1 |> fun w => ?_
      rotate_left
      · rw [c39, c2t]
        refine R2.kl (fun _ => R2.bl (fun x5 ex => ?_))
        unfold mX1_putTool
        rw [c2t, c2t1]
        simp only [cal_ite, cal_bnd, cal_chk, cal_some]
        refine R2.il (fun z => ?_) (fun _ => R2.il (fun z => ?_) (fun _ => R2.kl (fun _ => R2.bl (fun M5 e5 => R2.kl (fun _ => R2.bl (fun M8 e8 => R2.ok ⟨XR.inl ?_ ?_, ?_⟩))))))
        · have z := i_lt.mp z
          rw [tt, n0] at z; omega
        · have z := i_le.mp z
          rw [tt, show ((5 : Int32)).toInt = 5 from rfl] at z; omega
        · show rd (wr (wr N3 136 (39 + 2 * t) x2) 136 (40 + 2 * t) x3) 135 5 = 0
          rw [rd_wk (by decide), rd_wk (by decide), e5']; exact rd_we
        · rw [ex]; exact hS.1.tl (2 * t) (by omega)
        · have hP : PR 5 M8 (upf (upf (row 136 N3) (39 + 2 * t) x2) (40 + 2 * t) x3) := by rw [e8, e5]; exact hS.1.tool ht hp.2.2.2
          have k20 : KS (fun c _ => 5 ≤ c ∧ c < 13) M3 M8 := by rw [e8, e5]; exact (KS.rf.wr (by omega)).wr (by omega)
          have l20 : KL M3 M8 := by rw [e8, e5]; exact KL.rf.wr.wr
          refine hS.row (f := upf (upf (row 136 N3) (39 + 2 * t) x2) (40 + 2 * t) x3) hP ?_ (hS.2.2.1.upd (fun i hi => by rw [upf_n (by omega), upf_n (by omega)])) (fun c j hc => k20 c j (by omega)) (fun c j hc => ?_) (hS.2.2.2.2.p5 k20 l20)
          · rw [row_wr]
            show upf (row 136 (wr N3 136 (39 + 2 * t) x2)) (40 + 2 * t) x3 = _
            rw [row_wr]
          · rw [rd_wk (by omega), rd_wk (by omega)]
      · rw [e13]; exact w
    · have e2 : r2 = 0 := by
        rcases p2 with ⟨_, q⟩ | ⟨e, _⟩
        · exact absurd q hp
        · exact e
      exact R2.bad1 e2 rfl h
  · -- no such tool
    have ne : ∀ d : Nat, d < 5 → ¬ x1 = Int32.ofNat d := fun d hd z => hx (by rw [z, t_of (by omega)]; omega)
    have t0 : Pc (mX7_areTold x1 x2 x3 N) (fun r => r = 0) := by
      unfold mX7_areTold
      refine Pc.c (Pc.self _) (fun r2 _ => Pc.i (fun _ => Pc.ok rfl) (fun _ => Pc.i (fun z => absurd z (ne 0 (by omega))) (fun _ => Pc.i (fun z => absurd z (ne 1 (by omega))) (fun _ => Pc.i (fun z => absurd z (ne 2 (by omega))) (fun _ => Pc.i (fun z => absurd z (ne 3 (by omega))) (fun _ => Pc.i (fun z => absurd z (ne 4 (by omega))) (fun _ => Pc.ok rfl)))))))
    refine R2.cr t0 (fun r2 e2 => ?_)
    unfold mX6_setTool mX6_setTool_b32
    refine R2.cl (Q := fun r => r = none) ?_ (fun r e => ?_)
    · unfold mX5_ofTool
      exact Pc.i (fun z => absurd z (ne 0 (by omega))) (fun _ => Pc.i (fun z => absurd z (ne 1 (by omega))) (fun _ => Pc.i (fun z => absurd z (ne 2 (by omega))) (fun _ => Pc.i (fun z => absurd z (ne 3 (by omega))) (fun _ => Pc.i (fun z => absurd z (ne 4 (by omega))) (fun _ => Pc.ok rfl)))))
    · rw [e]
      exact R2.bad1 e2 rfl h
theorem unfold_RR (h : SS M N) : R2 (mX6_unfold 0 M) (mX7_unfold 135 N) (fun p q => p.2 = q.2 ∧ SS p.1 q.1) := by
  intro p q hp hq
  obtain ⟨u1, u2, u3, u4, u5, u6⟩ := unfold_R h.2.1 h.1 p q hp hq
  have kl : KL M p.1 := lX6_unfold (k0 := 0) (KL.rf : KL M M) p hp
  obtain ⟨e, o, h4, h2, h1, he, ho, hr⟩ := id h.2.1
  -- the reference's row and history
  have hN : HI q.1 ∧ rd q.1 136 53 = 0 := by
    unfold mX7_unfold at hq
    obtain ⟨N1, v1, hq⟩ := bnd_s hq
    obtain ⟨N5, _, v2, hq⟩ := cal_s hq
    have hq := (chk_s hq).2
    obtain ⟨x, _, hq⟩ := bnd_s hq
    have hq := (chk_s hq).2
    obtain ⟨N10, v3, hq⟩ := bnd_s hq
    have hq := (chk_s hq).2
    obtain ⟨N13, v4, hq⟩ := bnd_s hq
    have hT := h.th (v := 0)
    rw [← v1] at hT
    have hi5 : HI N5 := hi_rem (e := e) hT.2.2.2.1 hT.2.2.1 (by rw [v1, rd_wj (by decide)]; exact h4) he _ v2
    have l36 := (unf_l 5000 54 N13 (by omega) KS.rf (by omega) q hq).1
    have l36 : KS (fun k j => k = 136 ∧ 54 ≤ j) N13 q.1 := l36
    have f139 : ∀ j, rd q.1 139 j = rd N5 139 j := fun j => by rw [l36 139 j (by omega), v4, rd_wk (by decide), v3, rd_wk (by decide)]
    have f4 : rd q.1 135 4 = rd N5 135 4 := by rw [l36 135 4 (by omega), v4, rd_wk (by decide), v3, rd_wk (by decide)]
    refine ⟨fun i hi hlt => ?_, ?_⟩
    · rw [f4] at hlt
      exact (hi5 i hi hlt).cong (fun p _ => f139 _)
    · rw [l36 136 53 (by omega), v4]
      show rd (wr N10 136 52 0) 136 53 = 0
      rw [rd_wj (by decide), v3]
      exact rd_we
  refine ⟨u1, u4, u3, RI.flat hN.2, hN.1, h.2.2.2.2.ks u5 (fun c j h1 h2 _ z => by unfold SEc at z; omega) (fun j => kl.rl j)⟩
theorem undo_RR (h : SS M N) : R2 (mX6_undo 0 M) (mX7_undo 135 N) (fun p q => p.2 = q.2 ∧ SS p.1 q.1) := by
  intro p q hp hq
  obtain ⟨u1, u2, u3, u4, u5, u6⟩ := undo_R h.2.1 h.1 p q hp hq
  have kl : KL M p.1 := lX6_undo (k0 := 0) (KL.rf : KL M M) p hp
  obtain ⟨e, o, h4, h2, h1, he, ho, hr⟩ := id h.2.1
  have hN : HI q.1 ∧ RI (row 136 q.1) := by
    unfold mX7_undo at hq
    obtain ⟨N1, v1, hq⟩ := bnd_s hq
    have n4 : rd N1 135 4 = Int32.ofNat e := by rw [v1, rd_wj (by decide)]; exact h4
    have hT := h.th (v := 0)
    rw [← v1] at hT
    by_cases z : rd N1 135 4 = 0
    · have hq := ite_t z hq
      cases hq
      exact ⟨hT.2.2.2.1, hT.2.2.1⟩
    · have hq := ite_f z hq
      obtain ⟨N4, v2, hq⟩ := bnd_s hq
      have e0 : 0 < e := by
        apply Decidable.byContradiction
        intro w
        apply z
        rw [n4, show e = 0 by omega]; rfl
      have em : rd N4 135 4 = Int32.ofNat (e - 1) := by
        rw [v2, rd_we, n4, i_eq, i_sub (by rw [t_of (by omega), show ((1 : Int32)).toInt = 1 from rfl]; omega) (by rw [t_of (by omega), show ((1 : Int32)).toInt = 1 from rfl]; omega), t_of (by omega), t_of (by omega), show ((1 : Int32)).toInt = 1 from rfl]; omega
      have f139 : ∀ j, rd N4 139 j = rd N1 139 j := fun j => by rw [v2, rd_wk (by decide)]
      obtain ⟨w1, w2, w3, _, _⟩ := und_l (e := e - 1) (by omega) 5000 0 N4 (by omega) em KS.rf (fun p hp => by omega) q hq
      have w1 : KS SUr N4 q.1 := w1
      refine ⟨fun i hi hlt => ?_, ?_⟩
      · rw [w2, t_of (by omega)] at hlt
        exact (hT.2.2.2.1 i hi (by rw [n4, t_of (by omega)]; omega)).cong (fun p _ => (w1 139 _ (by unfold SUr; omega)).trans (f139 _))
      · exact (hT.2.2.2.1 (e - 1) (by omega) (by rw [n4, t_of (by omega)]; omega)).cong (fun p hp => (w3 p hp).trans (f139 _))
  exact ⟨u1, u4, u3, hN.2, hN.1, h.2.2.2.2.ks u5 (fun c j h1 h2 _ z => by unfold SUc at z; omega) (fun j => kl.rl j)⟩
end ED3
