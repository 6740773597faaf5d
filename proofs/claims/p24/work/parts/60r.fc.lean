/-! frames of the law's cases -/
section FC
variable {M N : Mem} {a1 a2 a3 a4 a5 : Int32}
theorem Pc.h {ρ α : Type} {P : α → Prop} {x : Option (Mem × (ρ ⊕ Nat))} {k : Mem → ρ → Option α} {Q : Mem × (ρ ⊕ Nat) → Prop} (h : Pc x Q) (hk : ∀ M r, Q (M, .inl r) → Pc (k M r) P) : Pc (calh x k) P := fun a e => by
  obtain ⟨M, r, e1, e2⟩ := calh_s e
  exact hk M r (h _ e1) a e2
theorem fc_2 : Pc (mlc_2 a1 a2 a3 a4 a5 M N) (fun q => KS SA M q.1 ∧ KS SB2 N q.2) := by
  unfold mlc_2
  have hM : KS SA M M := KS.rf
  have hN : KS SB2 N N := KS.rf
  exact (Pc.c (Pc.self _) (fun r2 _ => (Pc.m (fX7_errorKind  hN).pc (fun N6 r5 hN6 => (Pc.ok ⟨hM, hN6⟩)))))
theorem fc_3 : Pc (mlc_3 a1 a2 a3 a4 a5 M N) (fun q => KS SA M q.1 ∧ KS SB2 N q.2) := by
  unfold mlc_3
  have hM : KS SA M M := KS.rf
  have hN : KS SB2 N N := KS.rf
  exact (Pc.c (Pc.self _) (fun r2 _ => (Pc.m (fX7_errorPosition  hN).pc (fun N6 r5 hN6 => (Pc.ok ⟨hM, hN6⟩)))))
theorem fc_4 : Pc (mlc_4 a1 a2 a3 a4 a5 M N) (fun q => KS SA M q.1 ∧ KS SB2 N q.2) := by
  unfold mlc_4
  have hM : KS SA M M := KS.rf
  have hN : KS SB2 N N := KS.rf
  exact (Pc.c (Pc.self _) (fun r2 _ => (Pc.m (fX7_bends  hN).pc (fun N6 r5 hN6 => (Pc.ok ⟨hM, hN6⟩)))))
theorem fc_5 : Pc (mlc_5 a1 a2 a3 a4 a5 M N) (fun q => KS SA M q.1 ∧ KS SB2 N q.2) := by
  unfold mlc_5
  have hM : KS SA M M := KS.rf
  have hN : KS SB2 N N := KS.rf
  exact (Pc.c (Pc.self _) (fun r2 _ => (Pc.m (fX7_legs  hN).pc (fun N6 r5 hN6 => (Pc.ok ⟨hM, hN6⟩)))))
theorem fc_6 : Pc (mlc_6 a1 a2 a3 a4 a5 M N) (fun q => KS SA M q.1 ∧ KS SB2 N q.2) := by
  unfold mlc_6
  have hM : KS SA M M := KS.rf
  have hN : KS SB2 N N := KS.rf
  exact (Pc.h (fL_leg (by omega) hM).pc (fun M3 r2 hM3 => (Pc.m (fX7_leg  hN).pc (fun N6 r5 hN6 => (Pc.k (fun _ => (Pc.ok ⟨hM3, hN6⟩)))))))
theorem fc_7 : Pc (mlc_7 a1 a2 a3 a4 a5 M N) (fun q => KS SA M q.1 ∧ KS SB2 N q.2) := by
  unfold mlc_7
  have hM : KS SA M M := KS.rf
  have hN : KS SB2 N N := KS.rf
  exact (Pc.h (fL_isUp (by omega) hM).pc (fun M3 r2 hM3 => (Pc.m (fX7_isUp  hN).pc (fun N6 r5 hN6 => (Pc.k (fun _ => (Pc.ok ⟨hM3, hN6⟩)))))))
theorem fc_8 : Pc (mlc_8 a1 a2 a3 a4 a5 M N) (fun q => KS SA M q.1 ∧ KS SB2 N q.2) := by
  unfold mlc_8
  have hM : KS SA M M := KS.rf
  have hN : KS SB2 N N := KS.rf
  exact (Pc.c (Pc.self _) (fun r2 _ => (Pc.m (fX7_deduction  hN).pc (fun N6 r5 hN6 => (Pc.ok ⟨hM, hN6⟩)))))
theorem fc_9 : Pc (mlc_9 a1 a2 a3 a4 a5 M N) (fun q => KS SA M q.1 ∧ KS SB2 N q.2) := by
  unfold mlc_9
  have hM : KS SA M M := KS.rf
  have hN : KS SB2 N N := KS.rf
  exact (Pc.c (Pc.self _) (fun r2 _ => (Pc.m (fX7_flatLength  hN).pc (fun N6 r5 hN6 => (Pc.ok ⟨hM, hN6⟩)))))
theorem fc_10 : Pc (mlc_10 a1 a2 a3 a4 a5 M N) (fun q => KS SA M q.1 ∧ KS SB2 N q.2) := by
  unfold mlc_10
  have hM : KS SA M M := KS.rf
  have hN : KS SB2 N N := KS.rf
  exact (Pc.h (fL_linePlace (by omega) hM).pc (fun M3 r2 hM3 => (Pc.m (fX7_linePlace  hN).pc (fun N6 r5 hN6 => (Pc.k (fun _ => (Pc.ok ⟨hM3, hN6⟩)))))))
theorem fc_11 : Pc (mlc_11 a1 a2 a3 a4 a5 M N) (fun q => KS SA M q.1 ∧ KS SB2 N q.2) := by
  unfold mlc_11
  have hM : KS SA M M := KS.rf
  have hN : KS SB2 N N := KS.rf
  exact (Pc.c (Pc.self _) (fun r2 _ => (Pc.m (fX7_ratio  hN).pc (fun N6 r5 hN6 => (Pc.ok ⟨hM, hN6⟩)))))
theorem fc_12 : Pc (mlc_12 a1 a2 a3 a4 a5 M N) (fun q => KS SA M q.1 ∧ KS SB2 N q.2) := by
  unfold mlc_12
  have hM : KS SA M M := KS.rf
  have hN : KS SB2 N N := KS.rf
  exact (Pc.c (Pc.self _) (fun r2 _ => (Pc.m (fX7_springBack  hN).pc (fun N6 r5 hN6 => (Pc.ok ⟨hM, hN6⟩)))))
theorem fc_13 : Pc (mlc_13 a1 a2 a3 a4 a5 M N) (fun q => KS SA M q.1 ∧ KS SB2 N q.2) := by
  unfold mlc_13
  have hM : KS SA M M := KS.rf
  have hN : KS SB2 N N := KS.rf
  exact (Pc.k (fun _ => (Pc.h (fL_springBackFor (by omega) hM).pc (fun M4 r3 hM4 => (Pc.k (fun _ => (Pc.m (fX7_springBackFor  hN).pc (fun N8 r7 hN8 => (Pc.k (fun _ => (Pc.ok ⟨hM4, hN8⟩)))))))))))
theorem fc_14 : Pc (mlc_14 a1 a2 a3 a4 a5 M N) (fun q => KS SA M q.1 ∧ KS SB2 N q.2) := by
  unfold mlc_14
  have hM : KS SA M M := KS.rf
  have hN : KS SB2 N N := KS.rf
  exact (Pc.c (Pc.self _) (fun r2 _ => (Pc.m (fX7_swingAngle  hN).pc (fun N6 r5 hN6 => (Pc.ok ⟨hM, hN6⟩)))))
theorem fc_15 : Pc (mlc_15 a1 a2 a3 a4 a5 M N) (fun q => KS SA M q.1 ∧ KS SB2 N q.2) := by
  unfold mlc_15
  have hM : KS SA M M := KS.rf
  have hN : KS SB2 N N := KS.rf
  exact (Pc.h (fL_tool (by omega) hM).pc (fun M3 r2 hM3 => (Pc.m (fX7_tool  hN).pc (fun N6 r5 hN6 => (Pc.k (fun _ => (Pc.ok ⟨hM3, hN6⟩)))))))
theorem fc_16 : Pc (mlc_16 a1 a2 a3 a4 a5 M N) (fun q => KS SA M q.1 ∧ KS SB2 N q.2) := by
  unfold mlc_16
  have hM : KS SA M M := KS.rf
  have hN : KS SB2 N N := KS.rf
  exact (Pc.m (fX6_finishedWidth  hM).pc (fun M3 r2 hM3 => (Pc.m (fX7_finishedWidth  hN).pc (fun N6 r5 hN6 => (Pc.k (fun _ => (Pc.ok ⟨hM3, hN6⟩)))))))
theorem fc_17 : Pc (mlc_17 a1 a2 a3 a4 a5 M N) (fun q => KS SA M q.1 ∧ KS SB2 N q.2) := by
  unfold mlc_17
  have hM : KS SA M M := KS.rf
  have hN : KS SB2 N N := KS.rf
  exact (Pc.m (fX6_finishedHeight  hM).pc (fun M3 r2 hM3 => (Pc.m (fX7_finishedHeight  hN).pc (fun N6 r5 hN6 => (Pc.k (fun _ => (Pc.ok ⟨hM3, hN6⟩)))))))
theorem fc_18 : Pc (mlc_18 a1 a2 a3 a4 a5 M N) (fun q => KS SA M q.1 ∧ KS SB2 N q.2) := by
  unfold mlc_18
  have hM : KS SA M M := KS.rf
  have hN : KS SB2 N N := KS.rf
  exact (Pc.m (fX6_isFinishedCrossed  hM).pc (fun M3 r2 hM3 => (Pc.m (fX7_isFinishedCrossed  hN).pc (fun N6 r5 hN6 => (Pc.k (fun _ => (Pc.ok ⟨hM3, hN6⟩)))))))
theorem fc_19 : Pc (mlc_19 a1 a2 a3 a4 a5 M N) (fun q => KS SA M q.1 ∧ KS SB2 N q.2) := by
  unfold mlc_19
  have hM : KS SA M M := KS.rf
  have hN : KS SB2 N N := KS.rf
  exact (Pc.h (fL_finishedCorner (by omega) hM).pc (fun M3 r2 hM3 => (Pc.m (fX7_finishedCorner  hN).pc (fun N6 r5 hN6 => (Pc.k (fun _ => (Pc.ok ⟨hM3, hN6⟩)))))))
theorem fc_20 : Pc (mlc_20 a1 a2 a3 a4 a5 M N) (fun q => KS SA M q.1 ∧ KS SB2 N q.2) := by
  unfold mlc_20
  have hM : KS SA M M := KS.rf
  have hN : KS SB2 N N := KS.rf
  exact (Pc.c (Pc.self _) (fun r2 _ => (Pc.m (fX7_isSymmetric  hN).pc (fun N6 r5 hN6 => (Pc.ok ⟨hM, hN6⟩)))))
theorem fc_21 : Pc (mlc_21 a1 a2 a3 a4 a5 M N) (fun q => KS SA M q.1 ∧ KS SB2 N q.2) := by
  unfold mlc_21
  have hM : KS SA M M := KS.rf
  have hN : KS SB2 N N := KS.rf
  exact (Pc.c (Pc.self _) (fun r2 _ => (Pc.m (fX7_longestLeg  hN).pc (fun N6 r5 hN6 => (Pc.ok ⟨hM, hN6⟩)))))
theorem fc_22 : Pc (mlc_22 a1 a2 a3 a4 a5 M N) (fun q => KS SA M q.1 ∧ KS SB2 N q.2) := by
  unfold mlc_22
  have hM : KS SA M M := KS.rf
  have hN : KS SB2 N N := KS.rf
  exact (Pc.c (Pc.self _) (fun r2 _ => (Pc.m (fX7_made  hN).pc (fun N6 r5 hN6 => (Pc.i (fun _ => (Pc.ok ⟨hM, hN6⟩)) (fun _ => Pc.n))))))
theorem fc_23 : Pc (mlc_23 a1 a2 a3 a4 a5 M N) (fun q => KS SA M q.1 ∧ KS SB2 N q.2) := by
  unfold mlc_23
  have hM : KS SA M M := KS.rf
  have hN : KS SB2 N N := KS.rf
  exact (Pc.c (Pc.self _) (fun r2 _ => (Pc.m (fX7_steps  hN).pc (fun N6 r5 hN6 => (Pc.ok ⟨hM, hN6⟩)))))
theorem fc_24 : Pc (mlc_24 a1 a2 a3 a4 a5 M N) (fun q => KS SA M q.1 ∧ KS SB2 N q.2) := by
  unfold mlc_24
  have hM : KS SA M M := KS.rf
  have hN : KS SB2 N N := KS.rf
  exact (Pc.h (fL_step (by omega) hM).pc (fun M3 r2 hM3 => (Pc.m (fX7_step  hN).pc (fun N6 r5 hN6 => (Pc.k (fun _ => (Pc.ok ⟨hM3, hN6⟩)))))))
theorem fc_25 : Pc (mlc_25 a1 a2 a3 a4 a5 M N) (fun q => KS SA M q.1 ∧ KS SB2 N q.2) := by
  unfold mlc_25
  have hM : KS SA M M := KS.rf
  have hN : KS SB2 N N := KS.rf
  exact (Pc.c (Pc.self _) (fun r2 _ => (Pc.m (fX7_costSoFar  hN).pc (fun N6 r5 hN6 => (Pc.ok ⟨hM, hN6⟩)))))
theorem fc_26 : Pc (mlc_26 a1 a2 a3 a4 a5 M N) (fun q => KS SA M q.1 ∧ KS SB2 N q.2) := by
  unfold mlc_26
  have hM : KS SA M M := KS.rf
  have hN : KS SB2 N N := KS.rf
  exact (Pc.h (fL_reason (by omega) hM).pc (fun M3 r2 hM3 => (Pc.m (fX7_reason  hN).pc (fun N6 r5 hN6 => (Pc.k (fun _ => (Pc.ok ⟨hM3, hN6⟩)))))))
theorem fc_27 : Pc (mlc_27 a1 a2 a3 a4 a5 M N) (fun q => KS SA M q.1 ∧ KS SB2 N q.2) := by
  unfold mlc_27
  have hM : KS SA M M := KS.rf
  have hN : KS SB2 N N := KS.rf
  exact (Pc.h (fL_gauge (by omega) hM).pc (fun M3 r2 hM3 => (Pc.m (fX7_gauge  hN).pc (fun N6 r5 hN6 => (Pc.k (fun _ => (Pc.ok ⟨hM3, hN6⟩)))))))
theorem fc_28 : Pc (mlc_28 a1 a2 a3 a4 a5 M N) (fun q => KS SA M q.1 ∧ KS SB2 N q.2) := by
  unfold mlc_28
  have hM : KS SA M M := KS.rf
  have hN : KS SB2 N N := KS.rf
  exact (Pc.h (fL_corner (by omega) hM).pc (fun M3 r2 hM3 => (Pc.m (fX7_corner  hN).pc (fun N6 r5 hN6 => (Pc.k (fun _ => (Pc.ok ⟨hM3, hN6⟩)))))))
theorem fc_29 : Pc (mlc_29 a1 a2 a3 a4 a5 M N) (fun q => KS SA M q.1 ∧ KS SB2 N q.2) := by
  unfold mlc_29
  have hM : KS SA M M := KS.rf
  have hN : KS SB2 N N := KS.rf
  exact (Pc.h (fL_top (by omega) hM).pc (fun M3 r2 hM3 => (Pc.m (fX7_top  hN).pc (fun N6 r5 hN6 => (Pc.k (fun _ => (Pc.ok ⟨hM3, hN6⟩)))))))
theorem fc_30 : Pc (mlc_30 a1 a2 a3 a4 a5 M N) (fun q => KS SA M q.1 ∧ KS SB2 N q.2) := by
  unfold mlc_30
  have hM : KS SA M M := KS.rf
  have hN : KS SB2 N N := KS.rf
  exact (Pc.h (fL_hitting (by omega) hM).pc (fun M3 r2 hM3 => (Pc.m (fX7_hitting  hN).pc (fun N6 r5 hN6 => (Pc.k (fun _ => (Pc.ok ⟨hM3, hN6⟩)))))))
theorem fc_31 : Pc (mlc_31 a1 a2 a3 a4 a5 M N) (fun q => KS SA M q.1 ∧ KS SB2 N q.2) := by
  unfold mlc_31
  have hM : KS SA M M := KS.rf
  have hN : KS SB2 N N := KS.rf
  exact (Pc.h (fL_refused (by omega) hM).pc (fun M3 r2 hM3 => (Pc.m (fX7_refused  hN).pc (fun N6 r5 hN6 => (Pc.k (fun _ => (Pc.ok ⟨hM3, hN6⟩)))))))
theorem fc_32 : Pc (mlc_32 a1 a2 a3 a4 a5 M N) (fun q => KS SA M q.1 ∧ KS SB2 N q.2) := by
  unfold mlc_32
  have hM : KS SA M M := KS.rf
  have hN : KS SB2 N N := KS.rf
  exact (Pc.m (fX6_possible  hM).pc (fun M3 r2 hM3 => (Pc.m (fX7_possible  hN).pc (fun N6 r5 hN6 => (Pc.k (fun _ => (Pc.ok ⟨hM3, hN6⟩)))))))
theorem fc_33 : Pc (mlc_33 a1 a2 a3 a4 a5 M N) (fun q => KS SA M q.1 ∧ KS SB2 N q.2) := by
  unfold mlc_33
  have hM : KS SA M M := KS.rf
  have hN : KS SB2 N N := KS.rf
  exact (Pc.m (fX6_stuck  hM).pc (fun M3 r2 hM3 => (Pc.m (fX7_stuck  hN).pc (fun N6 r5 hN6 => (Pc.k (fun _ => (Pc.ok ⟨hM3, hN6⟩)))))))
theorem fc_34 : Pc (mlc_34 a1 a2 a3 a4 a5 M N) (fun q => KS SA M q.1 ∧ KS SB2 N q.2) := by
  unfold mlc_34
  have hM : KS SA M M := KS.rf
  have hN : KS SB2 N N := KS.rf
  exact (Pc.h (fL_costOf (by omega) hM).pc (fun M3 r2 hM3 => (Pc.m (fX7_costOf  hN).pc (fun N6 r5 hN6 => (Pc.k (fun _ => (Pc.ok ⟨hM3, hN6⟩)))))))
theorem fc_35 : Pc (mlc_35 a1 a2 a3 a4 a5 M N) (fun q => KS SA M q.1 ∧ KS SB2 N q.2) := by
  unfold mlc_35
  have hM : KS SA M M := KS.rf
  have hN : KS SB2 N N := KS.rf
  exact (Pc.m (fX6_orders  hM).pc (fun M3 r2 hM3 => (Pc.m (fX7_orders  hN).pc (fun N6 r5 hN6 => (Pc.k (fun _ => (Pc.ok ⟨hM3, hN6⟩)))))))
theorem fc_36 : Pc (mlc_36 a1 a2 a3 a4 a5 M N) (fun q => KS SA M q.1 ∧ KS SB2 N q.2) := by
  unfold mlc_36
  have hM : KS SA M M := KS.rf
  have hN : KS SB2 N N := KS.rf
  exact (Pc.m (fX6_leastCost  hM).pc (fun M3 r2 hM3 => (Pc.m (fX7_leastCost  hN).pc (fun N6 r5 hN6 => (Pc.k (fun _ => (Pc.ok ⟨hM3, hN6⟩)))))))
theorem fc_37 : Pc (mlc_37 a1 a2 a3 a4 a5 M N) (fun q => KS SA M q.1 ∧ KS SB2 N q.2) := by
  unfold mlc_37
  have hM : KS SA M M := KS.rf
  have hN : KS SB2 N N := KS.rf
  exact (Pc.m (fX6_plannedSteps  hM).pc (fun M3 r2 hM3 => (Pc.m (fX7_plannedSteps  hN).pc (fun N6 r5 hN6 => (Pc.k (fun _ => (Pc.ok ⟨hM3, hN6⟩)))))))
theorem fc_38 : Pc (mlc_38 a1 a2 a3 a4 a5 M N) (fun q => KS SA M q.1 ∧ KS SB2 N q.2) := by
  unfold mlc_38
  have hM : KS SA M M := KS.rf
  have hN : KS SB2 N N := KS.rf
  exact (Pc.h (fL_planned (by omega) hM).pc (fun M3 r2 hM3 => (Pc.m (fX7_planned  hN).pc (fun N6 r5 hN6 => (Pc.k (fun _ => (Pc.ok ⟨hM3, hN6⟩)))))))
theorem fc_39 : Pc (mlc_39 a1 a2 a3 a4 a5 M N) (fun q => KS SA M q.1 ∧ KS SB2 N q.2) := by
  unfold mlc_39
  have hM : KS SA M M := KS.rf
  have hN : KS SB2 N N := KS.rf
  exact (Pc.m (fX6_greatestCost  hM).pc (fun M3 r2 hM3 => (Pc.m (fX7_greatestCost  hN).pc (fun N6 r5 hN6 => (Pc.k (fun _ => (Pc.ok ⟨hM3, hN6⟩)))))))
theorem fc_40 : Pc (mlc_40 a1 a2 a3 a4 a5 M N) (fun q => KS SA M q.1 ∧ KS SB2 N q.2) := by
  unfold mlc_40
  have hM : KS SA M M := KS.rf
  have hN : KS SB2 N N := KS.rf
  exact (Pc.h (fL_ordersWith (by omega) hM).pc (fun M3 r2 hM3 => (Pc.m (fX7_ordersWith  hN).pc (fun N6 r5 hN6 => (Pc.k (fun _ => (Pc.ok ⟨hM3, hN6⟩)))))))
theorem fc_41 : Pc (mlc_41 a1 a2 a3 a4 a5 M N) (fun q => KS SA M q.1 ∧ KS SB2 N q.2) := by
  unfold mlc_41
  have hM : KS SA M M := KS.rf
  have hN : KS SB2 N N := KS.rf
  exact (Pc.m (fX6_lastSteps  hM).pc (fun M3 r2 hM3 => (Pc.m (fX7_lastSteps  hN).pc (fun N6 r5 hN6 => (Pc.k (fun _ => (Pc.ok ⟨hM3, hN6⟩)))))))
theorem fc_42 : Pc (mlc_42 a1 a2 a3 a4 a5 M N) (fun q => KS SA M q.1 ∧ KS SB2 N q.2) := by
  unfold mlc_42
  have hM : KS SA M M := KS.rf
  have hN : KS SB2 N N := KS.rf
  exact (Pc.m (fX6_mostBends  hM).pc (fun M3 r2 hM3 => (Pc.m (fX7_mostBends  hN).pc (fun N6 r5 hN6 => (Pc.k (fun _ => (Pc.ok ⟨hM3, hN6⟩)))))))
theorem fc_43 : Pc (mlc_43 a1 a2 a3 a4 a5 M N) (fun q => KS SA M q.1 ∧ KS SB2 N q.2) := by
  unfold mlc_43
  have hM : KS SA M M := KS.rf
  have hN : KS SB2 N N := KS.rf
  exact (Pc.m (fX6_greatestBeam  hM).pc (fun M3 r2 hM3 => (Pc.m (fX7_greatestBeam  hN).pc (fun N6 r5 hN6 => (Pc.k (fun _ => (Pc.ok ⟨hM3, hN6⟩)))))))
theorem fc_44 : Pc (mlc_44 a1 a2 a3 a4 a5 M N) (fun q => KS SA M q.1 ∧ KS SB2 N q.2) := by
  unfold mlc_44
  have hM : KS SA M M := KS.rf
  have hN : KS SB2 N N := KS.rf
  exact (Pc.h (fL_costIfTurned (by omega) hM).pc (fun M3 r2 hM3 => (Pc.m (fX7_costIfTurned  hN).pc (fun N6 r5 hN6 => (Pc.k (fun _ => (Pc.ok ⟨hM3, hN6⟩)))))))
theorem fc_45 : Pc (mlc_45 a1 a2 a3 a4 a5 M N) (fun q => KS SA M q.1 ∧ KS SB2 N q.2) := by
  unfold mlc_45
  have hM : KS SA M M := KS.rf
  have hN : KS SB2 N N := KS.rf
  exact (Pc.h (fL_fold (by omega) hM).pc (fun M3 r2 hM3 => (Pc.m (fX7_fold  hN).pc (fun N6 r5 hN6 => (Pc.k (fun _ => (Pc.ok ⟨hM3, hN6⟩)))))))
theorem fc_46 : Pc (mlc_46 a1 a2 a3 a4 a5 M N) (fun q => KS SA M q.1 ∧ KS SB2 N q.2) := by
  unfold mlc_46
  have hM : KS SA M M := KS.rf
  have hN : KS SB2 N N := KS.rf
  exact (Pc.h (fL_foldNext (by omega) hM).pc (fun M3 r2 hM3 => (Pc.m (fX7_foldNext  hN).pc (fun N6 r5 hN6 => (Pc.k (fun _ => (Pc.ok ⟨hM3, hN6⟩)))))))
theorem fc_47 : Pc (mlc_47 a1 a2 a3 a4 a5 M N) (fun q => KS SA M q.1 ∧ KS SB2 N q.2) := by
  unfold mlc_47
  have hM : KS SA M M := KS.rf
  have hN : KS SB2 N N := KS.rf
  exact (Pc.m (fX6_unfold  hM).pc (fun M3 r2 hM3 => (Pc.m (fX7_unfold  hN).pc (fun N6 r5 hN6 => (Pc.k (fun _ => (Pc.ok ⟨hM3, hN6⟩)))))))
theorem fc_48 : Pc (mlc_48 a1 a2 a3 a4 a5 M N) (fun q => KS SA M q.1 ∧ KS SB2 N q.2) := by
  unfold mlc_48
  have hM : KS SA M M := KS.rf
  have hN : KS SB2 N N := KS.rf
  exact (Pc.h (fL_setLeg (by omega) hM).pc (fun M3 r2 hM3 => (Pc.m (fX7_setLeg  hN).pc (fun N6 r5 hN6 => (Pc.k (fun _ => (Pc.ok ⟨hM3, hN6⟩)))))))
theorem fc_49 : Pc (mlc_49 a1 a2 a3 a4 a5 M N) (fun q => KS SA M q.1 ∧ KS SB2 N q.2) := by
  unfold mlc_49
  have hM : KS SA M M := KS.rf
  have hN : KS SB2 N N := KS.rf
  exact (Pc.i (fun _ => (Pc.h (fL_setDirection (by omega) hM).pc (fun M4 r3 hM4 => (Pc.i (fun _ => (Pc.m (fX7_setDirection  hN).pc (fun N8 r7 hN8 => (Pc.k (fun _ => (Pc.ok ⟨hM4, hN8⟩)))))) (fun _ => (Pc.m (fX7_setDirection  hN).pc (fun N12 r11 hN12 => (Pc.k (fun _ => (Pc.ok ⟨hM4, hN12⟩)))))))))) (fun _ => (Pc.h (fL_setDirection (by omega) hM).pc (fun M16 r15 hM16 => (Pc.i (fun _ => (Pc.m (fX7_setDirection  hN).pc (fun N20 r19 hN20 => (Pc.k (fun _ => (Pc.ok ⟨hM16, hN20⟩)))))) (fun _ => (Pc.m (fX7_setDirection  hN).pc (fun N24 r23 hN24 => (Pc.k (fun _ => (Pc.ok ⟨hM16, hN24⟩)))))))))))
theorem fc_50 : Pc (mlc_50 a1 a2 a3 a4 a5 M N) (fun q => KS SA M q.1 ∧ KS SB2 N q.2) := by
  unfold mlc_50
  have hM : KS SA M M := KS.rf
  have hN : KS SB2 N N := KS.rf
  exact (Pc.h (fL_setTool (by omega) hM).pc (fun M3 r2 hM3 => (Pc.m (fX7_setTool  hN).pc (fun N6 r5 hN6 => (Pc.k (fun _ => (Pc.ok ⟨hM3, hN6⟩)))))))
theorem fc_51 : Pc (mlc_51 a1 a2 a3 a4 a5 M N) (fun q => KS SA M q.1 ∧ KS SB2 N q.2) := by
  unfold mlc_51
  have hM : KS SA M M := KS.rf
  have hN : KS SB2 N N := KS.rf
  exact (Pc.h (fL_setSheet (by omega) hM).pc (fun M3 r2 hM3 => (Pc.m (fX7_setSheet  hN).pc (fun N6 r5 hN6 => (Pc.k (fun _ => (Pc.ok ⟨hM3, hN6⟩)))))))
theorem fc_52 : Pc (mlc_52 a1 a2 a3 a4 a5 M N) (fun q => KS SA M q.1 ∧ KS SB2 N q.2) := by
  unfold mlc_52
  have hM : KS SA M M := KS.rf
  have hN : KS SB2 N N := KS.rf
  exact (Pc.h (fL_setCost (by omega) hM).pc (fun M3 r2 hM3 => (Pc.m (fX7_setCost  hN).pc (fun N6 r5 hN6 => (Pc.k (fun _ => (Pc.ok ⟨hM3, hN6⟩)))))))
theorem fc_53 : Pc (mlc_53 a1 a2 a3 a4 a5 M N) (fun q => KS SA M q.1 ∧ KS SB2 N q.2) := by
  unfold mlc_53
  have hM : KS SA M M := KS.rf
  have hN : KS SB2 N N := KS.rf
  exact (Pc.m (fX6_undo  hM).pc (fun M3 r2 hM3 => (Pc.m (fX7_undo  hN).pc (fun N6 r5 hN6 => (Pc.k (fun _ => (Pc.ok ⟨hM3, hN6⟩)))))))
theorem fc_54 : Pc (mlc_54 a1 a2 a3 a4 a5 M N) (fun q => KS SA M q.1 ∧ KS SB2 N q.2) := by
  unfold mlc_54
  have hM : KS SA M M := KS.rf
  have hN : KS SB2 N N := KS.rf
  exact (Pc.m (fX6_write  hM).pc (fun M3 r2 hM3 => (Pc.m (fX7_write  hN).pc (fun N6 r5 hN6 => (Pc.ok ⟨hM3, hN6⟩)))))
theorem fc_55 : Pc (mlc_55 a1 a2 a3 a4 a5 M N) (fun q => KS SA M q.1 ∧ KS SB2 N q.2) := by
  unfold mlc_55
  have hM : KS SA M M := KS.rf
  have hN : KS SB2 N N := KS.rf
  exact (Pc.h (fL_written (by omega) hM).pc (fun M3 r2 hM3 => (Pc.m (fX7_written  hN).pc (fun N6 r5 hN6 => (Pc.k (fun _ => (Pc.ok ⟨hM3, hN6⟩)))))))
end FC
