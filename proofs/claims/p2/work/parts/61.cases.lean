/-! what holds between two steps of the law -/
def sP : Nat → Int × Int := fun i => if i = 0 then (0, 2) else if i = 1 then (0, 600) else (0, 70)
def CI (M : Mem) : Prop := OKb (fT sP) M ∧ (rd M 133 3).toInt ≤ (sbn (rd M 133 0) : Int)
def PP (M N : Mem) : Prop := CI M ∧ MI N ∧ rd M 0 1 = rd N 135 7
/-- the class's exact slots -/
def sM (M : Mem) : Nat → Int × Int := fun i => if i = 0 then ((rd M 133 0).toInt, (rd M 133 0).toInt) else if i = 1 then ((rd M 0 1).toInt, (rd M 0 1).toInt) else ((rd M 133 3).toInt, (rd M 133 3).toInt)
def CK (M M' : Mem) : Prop := CI M' ∧ rd M' 133 0 = rd M 133 0 ∧ rd M' 0 1 = rd M 0 1
section CP
variable {M M' N : Mem}
theorem OKb.slots {b : Bool} {g : Nat → Int × Int} {s s' : Nat → Int × Int} (h : OKb (b, g, s) M) (h0 : (s' 0).1 ≤ (rd M 133 0).toInt ∧ (rd M 133 0).toInt ≤ (s' 0).2) (h1 : (s' 1).1 ≤ (rd M 0 1).toInt ∧ (rd M 0 1).toInt ≤ (s' 1).2) (h2 : (s' 2).1 ≤ (rd M 133 3).toInt ∧ (rd M 133 3).toInt ≤ (s' 2).2) : OKb (b, g, s') M := by
  intro k j
  have hk := h k j
  by_cases e : (k = 0 ∧ j = 1) ∨ (k = 133 ∧ (j = 0 ∨ j = 3))
  · rcases e with ⟨rfl, rfl⟩ | ⟨rfl, rfl | rfl⟩
    · exact h1
    · exact h0
    · exact h2
  · have e2 : bxc (b, g, s') k j = bxc (b, g, s) k j := by
      unfold bxc
      by_cases k0 : k = 0
      · subst k0
        rw [if_pos rfl, if_pos rfl, if_neg (by omega), if_neg (by omega)]
      · by_cases k1 : k = 133
        · subst k1
          have j0 : ¬ j = 0 := by omega
          have j3 : ¬ j = 3 := by omega
          simp only [k0, j0, j3, if_false]
        · simp only [k0, k1, if_false]
    rw [e2]; exact hk
theorem slots {s : Nat → Int × Int} (h : OKb (fT s) M) : ((s 0).1 ≤ (rd M 133 0).toInt ∧ (rd M 133 0).toInt ≤ (s 0).2) ∧ ((s 1).1 ≤ (rd M 0 1).toInt ∧ (rd M 0 1).toInt ≤ (s 1).2) ∧ ((s 2).1 ≤ (rd M 133 3).toInt ∧ (rd M 133 3).toInt ≤ (s 2).2) := ⟨h 133 0, h 0 1, h 133 3⟩
theorem CI.m (h : CI M) : OKb (fT (sM M)) M := OKb.slots h.1 ⟨Int.le_refl _, Int.le_refl _⟩ ⟨Int.le_refl _, Int.le_refl _⟩ ⟨Int.le_refl _, Int.le_refl _⟩
theorem ck_of (h : CI M) (h' : OKb (fT (sM M)) M') : CK M M' := by
  obtain ⟨a0, a1, a2⟩ := slots h.1
  obtain ⟨b0, b1, b2⟩ := slots h'
  have b0 : (rd M 133 0).toInt ≤ (rd M' 133 0).toInt ∧ (rd M' 133 0).toInt ≤ (rd M 133 0).toInt := b0
  have b1 : (rd M 0 1).toInt ≤ (rd M' 0 1).toInt ∧ (rd M' 0 1).toInt ≤ (rd M 0 1).toInt := b1
  have b2 : (rd M 133 3).toInt ≤ (rd M' 133 3).toInt ∧ (rd M' 133 3).toInt ≤ (rd M 133 3).toInt := b2
  have e0 : rd M' 133 0 = rd M 133 0 := i_eq.mpr (by omega)
  have e1 : rd M' 0 1 = rd M 0 1 := i_eq.mpr (by omega)
  have e2 : rd M' 133 3 = rd M 133 3 := i_eq.mpr (by omega)
  refine ⟨⟨OKb.slots h' (by rw [e0]; exact a0) (by rw [e1]; exact a1) (by rw [e2]; exact a2), ?_⟩, e0, e1⟩
  rw [e0, e2]; exact h.2
theorem CI.sb (h : CI M) : SBi (sM M) M := by
  obtain ⟨a0, a1, a2⟩ := slots h.1
  exact ⟨OKb.slots h.1 a0 ⟨Int.le_refl _, Int.le_refl _⟩ a2, h.2⟩
theorem ckW (h : CI M) (h' : SBi (sM M) M') : CI M' ∧ rd M' 0 1 = rd M 0 1 := by
  obtain ⟨a0, a1, a2⟩ := slots h.1
  obtain ⟨b0, b1, b2⟩ := slots h'.1
  have b1 : (rd M 0 1).toInt ≤ (rd M' 0 1).toInt ∧ (rd M' 0 1).toInt ≤ (rd M 0 1).toInt := b1
  have e1 : rd M' 0 1 = rd M 0 1 := i_eq.mpr (by omega)
  exact ⟨⟨OKb.slots h'.1 b0 (by rw [e1]; exact a1) b2, h'.2⟩, e1⟩
theorem CI.b (h : CI M) : OKb (fT (sB (sM M))) M := by
  obtain ⟨a0, a1, a2⟩ := slots h.1
  exact OKb.slots h.1 ⟨Int.le_refl _, Int.le_refl _⟩ a1 ⟨Int.le_refl _, Int.le_refl _⟩
theorem sB_at (s : Nat → Int × Int) : sB s 0 = s 0 ∧ sB s 2 = s 2 ∧ sB s 1 = (0, 600) := ⟨if_neg (by decide), if_neg (by decide), if_pos rfl⟩
theorem sZ_at (s : Nat → Int × Int) : sZ s 0 = s 0 ∧ sZ s 2 = s 2 ∧ sZ s 1 = (0, 0) := ⟨if_neg (by decide), if_neg (by decide), if_pos rfl⟩
theorem ckB (h : CI M) {t : Nat → Int × Int} (ht : t 0 = sM M 0 ∧ t 2 = sM M 2 ∧ (t 1 = (0, 600) ∨ t 1 = (0, 0))) (h' : OKb (fT t) M') : CI M' ∧ rd M' 133 0 = rd M 133 0 := by
  obtain ⟨a0, a1, a2⟩ := slots h.1
  obtain ⟨b0, b1, b2⟩ := slots h'
  rw [ht.1] at b0
  rw [ht.2.1] at b2
  have b1 : (0 : Int) ≤ (rd M' 0 1).toInt ∧ (rd M' 0 1).toInt ≤ 600 := by
    rcases ht.2.2 with e | e
    · rw [e] at b1; exact b1
    · rw [e] at b1
      have b1 : (0 : Int) ≤ (rd M' 0 1).toInt ∧ (rd M' 0 1).toInt ≤ 0 := b1
      omega
  have b0 : (rd M 133 0).toInt ≤ (rd M' 133 0).toInt ∧ (rd M' 133 0).toInt ≤ (rd M 133 0).toInt := b0
  have b2 : (rd M 133 3).toInt ≤ (rd M' 133 3).toInt ∧ (rd M' 133 3).toInt ≤ (rd M 133 3).toInt := b2
  have e0 : rd M' 133 0 = rd M 133 0 := i_eq.mpr (by omega)
  have e2 : rd M' 133 3 = rd M 133 3 := i_eq.mpr (by omega)
  refine ⟨⟨OKb.slots h' (by rw [e0]; exact a0) ⟨by show (0 : Int) ≤ _; omega, by show _ ≤ (600 : Int); omega⟩ (by rw [e2]; exact a2), ?_⟩, e0⟩
  rw [e0, e2]; exact h.2
theorem pp1 {ρ : Type} {N' : Mem} {r : ρ} (h : PP M N) (hk : CK M M') (hn : MP N (N', r)) : PP M' N' := ⟨hk.1, hn.1, hk.2.2.trans (h.2.2.trans hn.2.symm)⟩
theorem pp0 {ρ : Type} {N' : Mem} {r : ρ} (h : PP M N) (hn : MP N (N', r)) : PP M N' := ⟨h.1, hn.1, h.2.2.trans hn.2.symm⟩
variable {a1 a2 a3 a4 a5 : Int32}

theorem pc_2 (h : PP M N) : Sf (mlc_2 a1 a2 a3 a4 a5 M N) (fun q => PP q.1 q.2) := by
  unfold mlc_2
  exact Sf.c (sX6_errorKind h.1.m) (fun r2 _ => Sf.m (mpi h.2.1 (fun g9 h9 => sX7_errorKind h9)) (fun N6 r5 p6 => Sf.ok (pp0 h p6)))
theorem pc_3 (h : PP M N) : Sf (mlc_3 a1 a2 a3 a4 a5 M N) (fun q => PP q.1 q.2) := by
  unfold mlc_3
  exact Sf.c (sX6_errorPosition h.1.m) (fun r2 _ => Sf.m (mpi h.2.1 (fun g9 h9 => sX7_errorPosition h9)) (fun N6 r5 p6 => Sf.ok (pp0 h p6)))
theorem pc_4 (h : PP M N) : Sf (mlc_4 a1 a2 a3 a4 a5 M N) (fun q => PP q.1 q.2) := by
  unfold mlc_4
  exact Sf.c (sX6_bends h.1.m) (fun r2 _ => Sf.m (mpi h.2.1 (fun g9 h9 => sX7_bends h9)) (fun N6 r5 p6 => Sf.ok (pp0 h p6)))
theorem pc_5 (h : PP M N) : Sf (mlc_5 a1 a2 a3 a4 a5 M N) (fun q => PP q.1 q.2) := by
  unfold mlc_5
  exact Sf.c (sX6_legs h.1.m) (fun r2 _ => Sf.m (mpi h.2.1 (fun g9 h9 => sX7_legs h9)) (fun N6 r5 p6 => Sf.ok (pp0 h p6)))
theorem pc_6 (h : PP M N) : Sf (mlc_6 a1 a2 a3 a4 a5 M N) (fun q => PP q.1 q.2) := by
  unfold mlc_6
  refine Sf.h (sL_leg h.1.m) (fun M3 r2 p => ?_) (fun M e h => absurd h.2 List.not_mem_nil)
  have c := ck_of h.1 p.1
  exact Sf.m (mpi h.2.1 (fun g9 h9 => sX7_leg h9)) (fun N6 r5 p6 => Sf.k (decide_eq_true c.2.1) (Sf.ok (pp1 h c p6)))
theorem pc_7 (h : PP M N) : Sf (mlc_7 a1 a2 a3 a4 a5 M N) (fun q => PP q.1 q.2) := by
  unfold mlc_7
  refine Sf.h (sL_isUp h.1.m) (fun M3 r2 p => ?_) (fun M e h => absurd h.2 List.not_mem_nil)
  have c := ck_of h.1 p.1
  exact Sf.m (mpi h.2.1 (fun g9 h9 => sX7_isUp h9)) (fun N6 r5 p6 => Sf.k (decide_eq_true c.2.1) (Sf.ok (pp1 h c p6)))
theorem pc_8 (h : PP M N) : Sf (mlc_8 a1 a2 a3 a4 a5 M N) (fun q => PP q.1 q.2) := by
  unfold mlc_8
  exact Sf.c (sX6_deduction h.1.m) (fun r2 _ => Sf.m (mp1 h.2.1 (fun g9 h9 => sX7_deduction h9)) (fun N6 r5 p6 => Sf.ok (pp0 h p6)))
theorem pc_9 (h : PP M N) : Sf (mlc_9 a1 a2 a3 a4 a5 M N) (fun q => PP q.1 q.2) := by
  unfold mlc_9
  exact Sf.c (sX6_flatLength h.1.m) (fun r2 _ => Sf.m (mp1 h.2.1 (fun g9 h9 => sX7_flatLength h9)) (fun N6 r5 p6 => Sf.ok (pp0 h p6)))
theorem pc_10 (h : PP M N) : Sf (mlc_10 a1 a2 a3 a4 a5 M N) (fun q => PP q.1 q.2) := by
  unfold mlc_10
  refine Sf.h (sL_linePlace h.1.m) (fun M3 r2 p => ?_) (fun M e h => absurd h.2 List.not_mem_nil)
  have c := ck_of h.1 p.1
  exact Sf.m (mp1 h.2.1 (fun g9 h9 => sX7_linePlace h9)) (fun N6 r5 p6 => Sf.k (decide_eq_true c.2.1) (Sf.ok (pp1 h c p6)))
theorem pc_11 (h : PP M N) : Sf (mlc_11 a1 a2 a3 a4 a5 M N) (fun q => PP q.1 q.2) := by
  unfold mlc_11
  exact Sf.c (sX6_ratio h.1.m) (fun r2 _ => Sf.m (mp1 h.2.1 (fun g9 h9 => sX7_ratio h9)) (fun N6 r5 p6 => Sf.ok (pp0 h p6)))
theorem pc_12 (h : PP M N) : Sf (mlc_12 a1 a2 a3 a4 a5 M N) (fun q => PP q.1 q.2) := by
  unfold mlc_12
  exact Sf.c (sX6_springBack h.1.m) (fun r2 _ => Sf.m (mp1 h.2.1 (fun g9 h9 => sX7_springBack h9)) (fun N6 r5 p6 => Sf.ok (pp0 h p6)))
theorem pc_14 (h : PP M N) : Sf (mlc_14 a1 a2 a3 a4 a5 M N) (fun q => PP q.1 q.2) := by
  unfold mlc_14
  exact Sf.c (sX6_swingAngle h.1.m) (fun r2 _ => Sf.m (mp1 h.2.1 (fun g9 h9 => sX7_swingAngle h9)) (fun N6 r5 p6 => Sf.ok (pp0 h p6)))
theorem pc_15 (h : PP M N) : Sf (mlc_15 a1 a2 a3 a4 a5 M N) (fun q => PP q.1 q.2) := by
  unfold mlc_15
  refine Sf.h (sL_tool h.1.m) (fun M3 r2 p => ?_) (fun M e h => absurd h.2 List.not_mem_nil)
  have c := ck_of h.1 p.1
  exact Sf.m (mpi h.2.1 (fun g9 h9 => sX7_tool h9)) (fun N6 r5 p6 => Sf.k (decide_eq_true c.2.1) (Sf.ok (pp1 h c p6)))
theorem pc_16 (h : PP M N) : Sf (mlc_16 a1 a2 a3 a4 a5 M N) (fun q => PP q.1 q.2) := by
  unfold mlc_16
  refine Sf.m (sX6_finishedWidth h.1.m) (fun M3 r2 p => ?_)
  have c := ck_of h.1 p.1
  exact Sf.m (mpi h.2.1 (fun g9 h9 => sX7_finishedWidth h9)) (fun N6 r5 p6 => Sf.k (decide_eq_true c.2.1) (Sf.ok (pp1 h c p6)))
theorem pc_17 (h : PP M N) : Sf (mlc_17 a1 a2 a3 a4 a5 M N) (fun q => PP q.1 q.2) := by
  unfold mlc_17
  refine Sf.m (sX6_finishedHeight h.1.m) (fun M3 r2 p => ?_)
  have c := ck_of h.1 p.1
  exact Sf.m (mpi h.2.1 (fun g9 h9 => sX7_finishedHeight h9)) (fun N6 r5 p6 => Sf.k (decide_eq_true c.2.1) (Sf.ok (pp1 h c p6)))
theorem pc_18 (h : PP M N) : Sf (mlc_18 a1 a2 a3 a4 a5 M N) (fun q => PP q.1 q.2) := by
  unfold mlc_18
  refine Sf.m (sX6_isFinishedCrossed h.1.m) (fun M3 r2 p => ?_)
  have c := ck_of h.1 p.1
  exact Sf.m (mpi h.2.1 (fun g9 h9 => sX7_isFinishedCrossed h9)) (fun N6 r5 p6 => Sf.k (decide_eq_true c.2.1) (Sf.ok (pp1 h c p6)))
theorem pc_19 (h : PP M N) : Sf (mlc_19 a1 a2 a3 a4 a5 M N) (fun q => PP q.1 q.2) := by
  unfold mlc_19
  refine Sf.h (sL_finishedCorner h.1.m) (fun M3 r2 p => ?_) (fun M e h => absurd h.2 List.not_mem_nil)
  have c := ck_of h.1 p.1
  exact Sf.m (mpi h.2.1 (fun g9 h9 => sX7_finishedCorner h9)) (fun N6 r5 p6 => Sf.k (decide_eq_true c.2.1) (Sf.ok (pp1 h c p6)))
theorem pc_20 (h : PP M N) : Sf (mlc_20 a1 a2 a3 a4 a5 M N) (fun q => PP q.1 q.2) := by
  unfold mlc_20
  exact Sf.c (sX6_isSymmetric h.1.m) (fun r2 _ => Sf.m (mpi h.2.1 (fun g9 h9 => sX7_isSymmetric h9)) (fun N6 r5 p6 => Sf.ok (pp0 h p6)))
theorem pc_21 (h : PP M N) : Sf (mlc_21 a1 a2 a3 a4 a5 M N) (fun q => PP q.1 q.2) := by
  unfold mlc_21
  exact Sf.c (sX6_longestLeg h.1.m) (fun r2 _ => Sf.m (mpi h.2.1 (fun g9 h9 => sX7_longestLeg h9)) (fun N6 r5 p6 => Sf.ok (pp0 h p6)))
theorem pc_22 (h : PP M N) : Sf (mlc_22 a1 a2 a3 a4 a5 M N) (fun q => PP q.1 q.2) := by
  unfold mlc_22
  exact Sf.c (sX6_made h.1.m) (fun r2 _ => Sf.m (mpi h.2.1 (fun g9 h9 => sX7_made h9)) (fun N6 r5 p6 => Sf.ok (pp0 h p6)))
theorem pc_23 (h : PP M N) : Sf (mlc_23 a1 a2 a3 a4 a5 M N) (fun q => PP q.1 q.2) := by
  unfold mlc_23
  exact Sf.c (sX6_steps h.1.m) (fun r2 _ => Sf.m (mpi h.2.1 (fun g9 h9 => sX7_steps h9)) (fun N6 r5 p6 => Sf.ok (pp0 h p6)))
theorem pc_24 (h : PP M N) : Sf (mlc_24 a1 a2 a3 a4 a5 M N) (fun q => PP q.1 q.2) := by
  unfold mlc_24
  refine Sf.h (sL_step h.1.m) (fun M3 r2 p => ?_) (fun M e h => absurd h.2 List.not_mem_nil)
  have c := ck_of h.1 p.1
  exact Sf.m (mpi h.2.1 (fun g9 h9 => sX7_step h9)) (fun N6 r5 p6 => Sf.k (decide_eq_true c.2.1) (Sf.ok (pp1 h c p6)))
theorem pc_25 (h : PP M N) : Sf (mlc_25 a1 a2 a3 a4 a5 M N) (fun q => PP q.1 q.2) := by
  unfold mlc_25
  exact Sf.c (sX6_costSoFar h.1.m) (fun r2 _ => Sf.m (mpi h.2.1 (fun g9 h9 => sX7_costSoFar h9)) (fun N6 r5 p6 => Sf.ok (pp0 h p6)))
theorem pc_26 (h : PP M N) : Sf (mlc_26 a1 a2 a3 a4 a5 M N) (fun q => PP q.1 q.2) := by
  unfold mlc_26
  refine Sf.h (sL_reason h.1.m) (fun M3 r2 p => ?_) (fun M e h => absurd h.2 List.not_mem_nil)
  have c := ck_of h.1 p.1
  exact Sf.m (mpi h.2.1 (fun g9 h9 => sX7_reason h9)) (fun N6 r5 p6 => Sf.k (decide_eq_true c.2.1) (Sf.ok (pp1 h c p6)))
theorem pc_27 (h : PP M N) : Sf (mlc_27 a1 a2 a3 a4 a5 M N) (fun q => PP q.1 q.2) := by
  unfold mlc_27
  refine Sf.h (sL_gauge h.1.m) (fun M3 r2 p => ?_) (fun M e h => absurd h.2 List.not_mem_nil)
  have c := ck_of h.1 p.1
  exact Sf.m (mpi h.2.1 (fun g9 h9 => sX7_gauge h9)) (fun N6 r5 p6 => Sf.k (decide_eq_true c.2.1) (Sf.ok (pp1 h c p6)))
theorem pc_28 (h : PP M N) : Sf (mlc_28 a1 a2 a3 a4 a5 M N) (fun q => PP q.1 q.2) := by
  unfold mlc_28
  refine Sf.h (sL_corner h.1.m) (fun M3 r2 p => ?_) (fun M e h => absurd h.2 List.not_mem_nil)
  have c := ck_of h.1 p.1
  exact Sf.m (mp1 h.2.1 (fun g9 h9 => sX7_corner h9)) (fun N6 r5 p6 => Sf.k (decide_eq_true c.2.1) (Sf.ok (pp1 h c p6)))
theorem pc_29 (h : PP M N) : Sf (mlc_29 a1 a2 a3 a4 a5 M N) (fun q => PP q.1 q.2) := by
  unfold mlc_29
  refine Sf.h (sL_top h.1.m) (fun M3 r2 p => ?_) (fun M e h => absurd h.2 List.not_mem_nil)
  have c := ck_of h.1 p.1
  exact Sf.m (mpi h.2.1 (fun g9 h9 => sX7_top h9)) (fun N6 r5 p6 => Sf.k (decide_eq_true c.2.1) (Sf.ok (pp1 h c p6)))
theorem pc_30 (h : PP M N) : Sf (mlc_30 a1 a2 a3 a4 a5 M N) (fun q => PP q.1 q.2) := by
  unfold mlc_30
  refine Sf.h (sL_hitting h.1.m) (fun M3 r2 p => ?_) (fun M e h => absurd h.2 List.not_mem_nil)
  have c := ck_of h.1 p.1
  exact Sf.m (mpi h.2.1 (fun g9 h9 => sX7_hitting h9)) (fun N6 r5 p6 => Sf.k (decide_eq_true c.2.1) (Sf.ok (pp1 h c p6)))
theorem pc_31 (h : PP M N) : Sf (mlc_31 a1 a2 a3 a4 a5 M N) (fun q => PP q.1 q.2) := by
  unfold mlc_31
  refine Sf.h (sL_refused h.1.m) (fun M3 r2 p => ?_) (fun M e h => absurd h.2 List.not_mem_nil)
  have c := ck_of h.1 p.1
  exact Sf.m (mpi h.2.1 (fun g9 h9 => sX7_refused h9)) (fun N6 r5 p6 => Sf.k (decide_eq_true c.2.1) (Sf.ok (pp1 h c p6)))
theorem pc_32 (h : PP M N) : Sf (mlc_32 a1 a2 a3 a4 a5 M N) (fun q => PP q.1 q.2) := by
  unfold mlc_32
  refine Sf.m (sX6_possible h.1.m) (fun M3 r2 p => ?_)
  have c := ck_of h.1 p.1
  exact Sf.m (mpi h.2.1 (fun g9 h9 => sX7_possible h9)) (fun N6 r5 p6 => Sf.k (decide_eq_true c.2.1) (Sf.ok (pp1 h c p6)))
theorem pc_33 (h : PP M N) : Sf (mlc_33 a1 a2 a3 a4 a5 M N) (fun q => PP q.1 q.2) := by
  unfold mlc_33
  refine Sf.m (sX6_stuck h.1.m) (fun M3 r2 p => ?_)
  have c := ck_of h.1 p.1
  exact Sf.m (mpi h.2.1 (fun g9 h9 => sX7_stuck h9)) (fun N6 r5 p6 => Sf.k (decide_eq_true c.2.1) (Sf.ok (pp1 h c p6)))
theorem pc_34 (h : PP M N) : Sf (mlc_34 a1 a2 a3 a4 a5 M N) (fun q => PP q.1 q.2) := by
  unfold mlc_34
  refine Sf.h (sL_costOf h.1.m) (fun M3 r2 p => ?_) (fun M e h => absurd h.2 List.not_mem_nil)
  have c := ck_of h.1 p.1
  exact Sf.m (mpi h.2.1 (fun g9 h9 => sX7_costOf h9)) (fun N6 r5 p6 => Sf.k (decide_eq_true c.2.1) (Sf.ok (pp1 h c p6)))
theorem pc_35 (h : PP M N) : Sf (mlc_35 a1 a2 a3 a4 a5 M N) (fun q => PP q.1 q.2) := by
  unfold mlc_35
  obtain ⟨n, m, hR⟩ := h.2.1.2.1
  refine Sf.m (sX6_orders h.1.m) (fun M3 r2 p => ?_)
  have c := ck_of h.1 p
  exact Sf.m (mp2 h.2.1 (fun g9 h9 => sX7_orders h9 hR)) (fun N6 r5 p6 => Sf.k (decide_eq_true c.2.1) (Sf.ok (pp1 h c p6)))
theorem pc_36 (h : PP M N) : Sf (mlc_36 a1 a2 a3 a4 a5 M N) (fun q => PP q.1 q.2) := by
  unfold mlc_36
  obtain ⟨n, m, hR⟩ := h.2.1.2.1
  refine Sf.m (sX6_leastCost h.1.m) (fun M3 r2 p => ?_)
  have c := ck_of h.1 p.1
  exact Sf.m (mp2 h.2.1 (fun g9 h9 => sX7_leastCost h9 hR)) (fun N6 r5 p6 => Sf.k (decide_eq_true c.2.1) (Sf.ok (pp1 h c p6)))
theorem pc_37 (h : PP M N) : Sf (mlc_37 a1 a2 a3 a4 a5 M N) (fun q => PP q.1 q.2) := by
  unfold mlc_37
  obtain ⟨n, m, hR⟩ := h.2.1.2.1
  refine Sf.m (sX6_plannedSteps h.1.m) (fun M3 r2 p => ?_)
  have c := ck_of h.1 p.1
  exact Sf.m (mp2 h.2.1 (fun g9 h9 => sX7_plannedSteps h9 hR)) (fun N6 r5 p6 => Sf.k (decide_eq_true c.2.1) (Sf.ok (pp1 h c p6)))
theorem pc_38 (h : PP M N) : Sf (mlc_38 a1 a2 a3 a4 a5 M N) (fun q => PP q.1 q.2) := by
  unfold mlc_38
  obtain ⟨n, m, hR⟩ := h.2.1.2.1
  refine Sf.h (sL_planned h.1.m) (fun M3 r2 p => ?_) (fun M e h => absurd h.2 List.not_mem_nil)
  have c := ck_of h.1 p.1
  exact Sf.m (mp2 h.2.1 (fun g9 h9 => sX7_planned h9 hR)) (fun N6 r5 p6 => Sf.k (decide_eq_true c.2.1) (Sf.ok (pp1 h c p6)))
theorem pc_39 (h : PP M N) : Sf (mlc_39 a1 a2 a3 a4 a5 M N) (fun q => PP q.1 q.2) := by
  unfold mlc_39
  obtain ⟨n, m, hR⟩ := h.2.1.2.1
  refine Sf.m (sX6_greatestCost h.1.m) (fun M3 r2 p => ?_)
  have c := ck_of h.1 p.1
  exact Sf.m (mp2 h.2.1 (fun g9 h9 => sX7_greatestCost h9 hR)) (fun N6 r5 p6 => Sf.k (decide_eq_true c.2.1) (Sf.ok (pp1 h c p6)))
theorem pc_40 (h : PP M N) : Sf (mlc_40 a1 a2 a3 a4 a5 M N) (fun q => PP q.1 q.2) := by
  unfold mlc_40
  obtain ⟨n, m, hR⟩ := h.2.1.2.1
  refine Sf.h (sL_ordersWith h.1.m) (fun M3 r2 p => ?_) (fun M e h => absurd h.2 List.not_mem_nil)
  have c := ck_of h.1 p.1
  exact Sf.m (mp2 h.2.1 (fun g9 h9 => sX7_ordersWith h9 hR)) (fun N6 r5 p6 => Sf.k (decide_eq_true c.2.1) (Sf.ok (pp1 h c p6)))
theorem pc_41 (h : PP M N) : Sf (mlc_41 a1 a2 a3 a4 a5 M N) (fun q => PP q.1 q.2) := by
  unfold mlc_41
  obtain ⟨n, m, hR⟩ := h.2.1.2.1
  refine Sf.m (sX6_lastSteps h.1.m) (fun M3 r2 p => ?_)
  have c := ck_of h.1 p.1
  exact Sf.m (mp2 h.2.1 (fun g9 h9 => sX7_lastSteps h9 hR)) (fun N6 r5 p6 => Sf.k (decide_eq_true c.2.1) (Sf.ok (pp1 h c p6)))
theorem pc_42 (h : PP M N) : Sf (mlc_42 a1 a2 a3 a4 a5 M N) (fun q => PP q.1 q.2) := by
  unfold mlc_42
  obtain ⟨n, m, hR⟩ := h.2.1.2.1
  refine Sf.m (sX6_mostBends h.1.m) (fun M3 r2 p => ?_)
  have c := ck_of h.1 p.1
  exact Sf.m (mp2 h.2.1 (fun g9 h9 => sX7_mostBends h9 hR)) (fun N6 r5 p6 => Sf.k (decide_eq_true c.2.1) (Sf.ok (pp1 h c p6)))
theorem pc_43 (h : PP M N) : Sf (mlc_43 a1 a2 a3 a4 a5 M N) (fun q => PP q.1 q.2) := by
  unfold mlc_43
  refine Sf.m (sX6_greatestBeam h.1.m) (fun M3 r2 p => ?_)
  have c := ck_of h.1 p.1
  exact Sf.m (sX7_greatestBeam h.2.1) (fun N6 r5 p6 => Sf.k (decide_eq_true c.2.1) (Sf.ok (pp1 h c p6)))
theorem pc_44 (h : PP M N) : Sf (mlc_44 a1 a2 a3 a4 a5 M N) (fun q => PP q.1 q.2) := by
  unfold mlc_44
  refine Sf.h (sL_costIfTurned h.1.m) (fun M3 r2 p => ?_) (fun M e h => absurd h.2 List.not_mem_nil)
  have c := ck_of h.1 p.1
  exact Sf.m (sX7_costIfTurned h.2.1) (fun N6 r5 p6 => Sf.k (decide_eq_true c.2.1) (Sf.ok (pp1 h c p6)))
theorem pc_45 (h : PP M N) : Sf (mlc_45 a1 a2 a3 a4 a5 M N) (fun q => PP q.1 q.2) := by
  unfold mlc_45
  refine Sf.h (sL_fold h.1.m) (fun M3 r2 p => ?_) (fun M e h => absurd h.2 List.not_mem_nil)
  have c := ck_of h.1 p.1
  exact Sf.m (sX7_fold h.2.1) (fun N6 r5 p6 => Sf.k (decide_eq_true c.2.1) (Sf.ok (pp1 h c p6)))
theorem pc_46 (h : PP M N) : Sf (mlc_46 a1 a2 a3 a4 a5 M N) (fun q => PP q.1 q.2) := by
  unfold mlc_46
  refine Sf.h (sL_foldNext h.1.m) (fun M3 r2 p => ?_) (fun M e h => absurd h.2 List.not_mem_nil)
  have c := ck_of h.1 p.1
  exact Sf.m (sX7_foldNext h.2.1) (fun N6 r5 p6 => Sf.k (decide_eq_true c.2.1) (Sf.ok (pp1 h c p6)))
theorem pc_47 (h : PP M N) : Sf (mlc_47 a1 a2 a3 a4 a5 M N) (fun q => PP q.1 q.2) := by
  unfold mlc_47
  refine Sf.m (sX6_unfold h.1.m) (fun M3 r2 p => ?_)
  have c := ck_of h.1 p.1
  exact Sf.m (sX7_unfold h.2.1) (fun N6 r5 p6 => Sf.k (decide_eq_true c.2.1) (Sf.ok (pp1 h c p6)))
theorem pc_48 (h : PP M N) : Sf (mlc_48 a1 a2 a3 a4 a5 M N) (fun q => PP q.1 q.2) := by
  unfold mlc_48
  refine Sf.h (sL_setLeg h.1.m) (fun M3 r2 p => ?_) (fun M e h => absurd h.2 List.not_mem_nil)
  have c := ck_of h.1 p.1
  exact Sf.m (sX7_setLeg h.2.1) (fun N6 r5 p6 => Sf.k (decide_eq_true c.2.1) (Sf.ok (pp1 h c p6)))
theorem pc_50 (h : PP M N) : Sf (mlc_50 a1 a2 a3 a4 a5 M N) (fun q => PP q.1 q.2) := by
  unfold mlc_50
  refine Sf.h (sL_setTool h.1.m) (fun M3 r2 p => ?_) (fun M e h => absurd h.2 List.not_mem_nil)
  have c := ck_of h.1 p.1
  exact Sf.m (sX7_setTool h.2.1) (fun N6 r5 p6 => Sf.k (decide_eq_true c.2.1) (Sf.ok (pp1 h c p6)))
theorem pc_51 (h : PP M N) : Sf (mlc_51 a1 a2 a3 a4 a5 M N) (fun q => PP q.1 q.2) := by
  unfold mlc_51
  refine Sf.h (sL_setSheet h.1.m) (fun M3 r2 p => ?_) (fun M e h => absurd h.2 List.not_mem_nil)
  have c := ck_of h.1 p.1
  exact Sf.m (sX7_setSheet h.2.1) (fun N6 r5 p6 => Sf.k (decide_eq_true c.2.1) (Sf.ok (pp1 h c p6)))
theorem pc_52 (h : PP M N) : Sf (mlc_52 a1 a2 a3 a4 a5 M N) (fun q => PP q.1 q.2) := by
  unfold mlc_52
  refine Sf.h (sL_setCost h.1.m) (fun M3 r2 p => ?_) (fun M e h => absurd h.2 List.not_mem_nil)
  have c := ck_of h.1 p.1
  exact Sf.m (sX7_setCost h.2.1) (fun N6 r5 p6 => Sf.k (decide_eq_true c.2.1) (Sf.ok (pp1 h c p6)))
theorem pc_53 (h : PP M N) : Sf (mlc_53 a1 a2 a3 a4 a5 M N) (fun q => PP q.1 q.2) := by
  unfold mlc_53
  refine Sf.m (sX6_undo h.1.m) (fun M3 r2 p => ?_)
  have c := ck_of h.1 p.1
  exact Sf.m (sX7_undo h.2.1) (fun N6 r5 p6 => Sf.k (decide_eq_true c.2.1) (Sf.ok (pp1 h c p6)))
theorem pc_0 (h : PP M N) : Sf (mlc_0 a1 a2 a3 a4 a5 M N) (fun q => PP q.1 q.2) := by
  unfold mlc_0
  refine Sf.m (sX6_feed_ex h.1.b) (fun M3 r2 p => ?_)
  have c := ckB h.1 (t := sB (sM M)) ⟨(sB_at _).1, (sB_at _).2.1, Or.inl (sB_at _).2.2⟩ p.1
  refine Sf.m (sX7_feed h.2.1) (fun N6 r5 p6 => ?_)
  have q := p.2
  have q6 := p6.2
  have e := congrArg Int32.toInt h.2.2
  have q : (600 < (rd M 0 1).toInt + 20 ∧ r2.toInt = -2 ∧ (rd M3 0 1).toInt = (rd M 0 1).toInt) ∨ ((rd M 0 1).toInt + 20 ≤ 600 ∧ r2.toInt = (rd M 0 1).toInt + 20 ∧ (rd M3 0 1).toInt = (rd M 0 1).toInt + 20) := q
  have q6 : (600 < (rd N 135 7).toInt + 20 ∧ r5.toInt = -2 ∧ (rd N6 135 7).toInt = (rd N 135 7).toInt) ∨ ((rd N 135 7).toInt + 20 ≤ 600 ∧ r5.toInt = (rd N 135 7).toInt + 20 ∧ (rd N6 135 7).toInt = (rd N 135 7).toInt + 20) := q6
  exact Sf.i (fun _ => Sf.k (decide_eq_true c.2) (Sf.ok ⟨c.1, p6.1, i_eq.mpr (by show (rd M3 0 1).toInt = (rd N6 135 7).toInt; omega)⟩)) (fun n => absurd (i_eq.mpr (by omega)) n)
theorem pc_1 (h : PP M N) : Sf (mlc_1 a1 a2 a3 a4 a5 M N) (fun q => PP q.1 q.2) := by
  unfold mlc_1
  refine Sf.h (sL_load_ex h.1.b) (fun M3 r2 p => ?_) (fun M e h => by obtain ⟨⟨r, h⟩, _⟩ := h; cases h)
  refine Sf.m (sX7_load h.2.1) (fun N6 r5 p6 => ?_)
  have e := congrArg Int32.toInt h.2.2
  have q6 : (rd N6 135 7 = rd N 135 7 ∧ ¬ (0 ≤ a1.toInt ∧ a1.toInt ≤ (rd N 135 7).toInt)) ∨ ((rd N6 135 7).toInt = 0 ∧ 0 ≤ a1.toInt ∧ a1.toInt ≤ (rd N 135 7).toInt) := p6.2
  rcases p.2 with ⟨h3, k1, k2, k3, hc⟩ | ⟨h3, hc⟩
  · have c := ckB h.1 (t := sB (sM M)) ⟨(sB_at _).1, (sB_at _).2.1, Or.inl (sB_at _).2.2⟩ h3
    have k1 : (rd M3 0 1).toInt = (rd M 0 1).toInt := k1
    refine Sf.k (decide_eq_true c.2) (Sf.ok ⟨c.1, p6.1, i_eq.mpr ?_⟩)
    rcases q6 with ⟨q, _⟩ | ⟨_, q⟩
    · show (rd M3 0 1).toInt = (rd N6 135 7).toInt
      rw [q]; omega
    · omega
  · have c := ckB h.1 (t := sZ (sM M)) ⟨(sZ_at _).1, (sZ_at _).2.1, Or.inr (sZ_at _).2.2⟩ h3
    have z := (slots (M := M3) h3).2.1
    rw [(sZ_at _).2.2] at z
    have z : (0 : Int) ≤ (rd M3 0 1).toInt ∧ (rd M3 0 1).toInt ≤ 0 := z
    refine Sf.k (decide_eq_true c.2) (Sf.ok ⟨c.1, p6.1, i_eq.mpr ?_⟩)
    show (rd M3 0 1).toInt = (rd N6 135 7).toInt
    rcases q6 with ⟨_, q⟩ | ⟨q, _⟩
    · omega
    · omega
theorem pc_13 (h : PP M N) : Sf (mlc_13 a1 a2 a3 a4 a5 M N) (fun q => PP q.1 q.2) := by
  unfold mlc_13
  have m1 := (mg_arg a1).up (K' := 1070) (by decide)
  refine Sf.k (n64_of m1 (by decide)) (Sf.h (sL_springBackFor h.1.m m1) (fun M3 r2 p => ?_) (fun M e h => absurd h.2 List.not_mem_nil))
  have c := ck_of h.1 p.1
  exact Sf.k (n64_of m1 (by decide)) (Sf.m (mp1 h.2.1 (fun g9 h9 => sX7_springBackFor h9 m1)) (fun N6 r5 p6 => Sf.k (decide_eq_true c.2.1) (Sf.ok (pp1 h c p6))))
theorem pc_49 (h : PP M N) : Sf (mlc_49 a1 a2 a3 a4 a5 M N) (fun q => PP q.1 q.2) := by
  unfold mlc_49
  refine Sf.i (fun _ => ?_) (fun _ => ?_)
  · refine Sf.h (sL_setDirection h.1.m) (fun M3 r2 p => ?_) (fun M e h => absurd h.2 List.not_mem_nil)
    have c := ck_of h.1 p.1
    exact Sf.i (fun _ => Sf.m (sX7_setDirection h.2.1) (fun N6 r5 p6 => Sf.k (decide_eq_true c.2.1) (Sf.ok (pp1 h c p6)))) (fun _ => Sf.m (sX7_setDirection h.2.1) (fun N6 r5 p6 => Sf.k (decide_eq_true c.2.1) (Sf.ok (pp1 h c p6))))
  · refine Sf.h (sL_setDirection h.1.m) (fun M3 r2 p => ?_) (fun M e h => absurd h.2 List.not_mem_nil)
    have c := ck_of h.1 p.1
    exact Sf.i (fun _ => Sf.m (sX7_setDirection h.2.1) (fun N6 r5 p6 => Sf.k (decide_eq_true c.2.1) (Sf.ok (pp1 h c p6)))) (fun _ => Sf.m (sX7_setDirection h.2.1) (fun N6 r5 p6 => Sf.k (decide_eq_true c.2.1) (Sf.ok (pp1 h c p6))))
theorem pc_54 (h : PP M N) : Sf (mlc_54 a1 a2 a3 a4 a5 M N) (fun q => PP q.1 q.2) := by
  unfold mlc_54
  refine Sf.m (sX6_write h.1.sb) (fun M3 r2 p => ?_)
  have c := ckW h.1 p
  exact Sf.m (sX7_write h.2.1) (fun N6 r5 p6 => Sf.ok ⟨c.1, p6.1, c.2.trans (h.2.2.trans p6.2.symm)⟩)
theorem pc_55 (h : PP M N) : Sf (mlc_55 a1 a2 a3 a4 a5 M N) (fun q => PP q.1 q.2) := by
  unfold mlc_55
  refine Sf.h (sL_written h.1.sb) (fun M3 r2 p => ?_) (fun M e h => by obtain ⟨_, _, r, h⟩ := h; cases h)
  have c := ckW h.1 p.1
  exact Sf.m (sX7_written h.2.1) (fun N6 r5 p6 => Sf.k (decide_eq_true (p.2.1 133 0)) (Sf.ok ⟨c.1, p6.1, c.2.trans (h.2.2.trans p6.2.symm)⟩))
theorem pc_all {a0 : Int32} (h : PP M N) : Sf (mcase a0 a1 a2 a3 a4 a5 M N) (fun q => PP q.1 q.2) := by
  unfold mcase
  refine Sf.i (fun _ => pc_0 h) (fun _ => ?_)
  refine Sf.i (fun _ => pc_1 h) (fun _ => ?_)
  refine Sf.i (fun _ => pc_2 h) (fun _ => ?_)
  refine Sf.i (fun _ => pc_3 h) (fun _ => ?_)
  refine Sf.i (fun _ => pc_4 h) (fun _ => ?_)
  refine Sf.i (fun _ => pc_5 h) (fun _ => ?_)
  refine Sf.i (fun _ => pc_6 h) (fun _ => ?_)
  refine Sf.i (fun _ => pc_7 h) (fun _ => ?_)
  refine Sf.i (fun _ => pc_8 h) (fun _ => ?_)
  refine Sf.i (fun _ => pc_9 h) (fun _ => ?_)
  refine Sf.i (fun _ => pc_10 h) (fun _ => ?_)
  refine Sf.i (fun _ => pc_11 h) (fun _ => ?_)
  refine Sf.i (fun _ => pc_12 h) (fun _ => ?_)
  refine Sf.i (fun _ => pc_13 h) (fun _ => ?_)
  refine Sf.i (fun _ => pc_14 h) (fun _ => ?_)
  refine Sf.i (fun _ => pc_15 h) (fun _ => ?_)
  refine Sf.i (fun _ => pc_16 h) (fun _ => ?_)
  refine Sf.i (fun _ => pc_17 h) (fun _ => ?_)
  refine Sf.i (fun _ => pc_18 h) (fun _ => ?_)
  refine Sf.i (fun _ => pc_19 h) (fun _ => ?_)
  refine Sf.i (fun _ => pc_20 h) (fun _ => ?_)
  refine Sf.i (fun _ => pc_21 h) (fun _ => ?_)
  refine Sf.i (fun _ => pc_22 h) (fun _ => ?_)
  refine Sf.i (fun _ => pc_23 h) (fun _ => ?_)
  refine Sf.i (fun _ => pc_24 h) (fun _ => ?_)
  refine Sf.i (fun _ => pc_25 h) (fun _ => ?_)
  refine Sf.i (fun _ => pc_26 h) (fun _ => ?_)
  refine Sf.i (fun _ => pc_27 h) (fun _ => ?_)
  refine Sf.i (fun _ => pc_28 h) (fun _ => ?_)
  refine Sf.i (fun _ => pc_29 h) (fun _ => ?_)
  refine Sf.i (fun _ => pc_30 h) (fun _ => ?_)
  refine Sf.i (fun _ => pc_31 h) (fun _ => ?_)
  refine Sf.i (fun _ => pc_32 h) (fun _ => ?_)
  refine Sf.i (fun _ => pc_33 h) (fun _ => ?_)
  refine Sf.i (fun _ => pc_34 h) (fun _ => ?_)
  refine Sf.i (fun _ => pc_35 h) (fun _ => ?_)
  refine Sf.i (fun _ => pc_36 h) (fun _ => ?_)
  refine Sf.i (fun _ => pc_37 h) (fun _ => ?_)
  refine Sf.i (fun _ => pc_38 h) (fun _ => ?_)
  refine Sf.i (fun _ => pc_39 h) (fun _ => ?_)
  refine Sf.i (fun _ => pc_40 h) (fun _ => ?_)
  refine Sf.i (fun _ => pc_41 h) (fun _ => ?_)
  refine Sf.i (fun _ => pc_42 h) (fun _ => ?_)
  refine Sf.i (fun _ => pc_43 h) (fun _ => ?_)
  refine Sf.i (fun _ => pc_44 h) (fun _ => ?_)
  refine Sf.i (fun _ => pc_45 h) (fun _ => ?_)
  refine Sf.i (fun _ => pc_46 h) (fun _ => ?_)
  refine Sf.i (fun _ => pc_47 h) (fun _ => ?_)
  refine Sf.i (fun _ => pc_48 h) (fun _ => ?_)
  refine Sf.i (fun _ => pc_49 h) (fun _ => ?_)
  refine Sf.i (fun _ => pc_50 h) (fun _ => ?_)
  refine Sf.i (fun _ => pc_51 h) (fun _ => ?_)
  refine Sf.i (fun _ => pc_52 h) (fun _ => ?_)
  refine Sf.i (fun _ => pc_53 h) (fun _ => ?_)
  refine Sf.i (fun _ => pc_54 h) (fun _ => ?_)
  refine Sf.i (fun _ => pc_55 h) (fun _ => ?_)
  exact Sf.ok h
theorem all_case : ∀ (a0 a1 a2 a3 a4 a5 : Int32) (M N : Mem), PP M N → ∃ M' N', mcase a0 a1 a2 a3 a4 a5 M N = some (M', N') ∧ PP M' N' := by
  intro a0 a1 a2 a3 a4 a5 M N h
  obtain ⟨⟨M', N'⟩, e, hp⟩ := pc_all (a0 := a0) (a1 := a1) (a2 := a2) (a3 := a3) (a4 := a4) (a5 := a5) h
  exact ⟨M', N', e, hp⟩
end CP
