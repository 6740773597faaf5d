/-! what holds between two steps of the law -/
def sP : Nat → Int × Int := fun i => if i = 0 then (0, 2) else if i = 1 then (0, 600) else (0, 70)
def CI (M : Mem) : Prop := OKb (fT sP) M ∧ (rd M 133 3).toInt ≤ (sbn (rd M 133 0) : Int)
def PP (M N : Mem) : Prop := CI M ∧ MI N ∧ rd M 0 1 = rd N 135 7
/-- the class's exact slots -/
def sM (M : Mem) : Nat → Int × Int := fun i => if i = 0 then ((rd M 133 0).toInt, (rd M 133 0).toInt) else if i = 1 then ((rd M 0 1).toInt, (rd M 0 1).toInt) else ((rd M 133 3).toInt, (rd M 133 3).toInt)
def CK (M M' : Mem) : Prop := CI M' ∧ rd M' 133 0 = rd M 133 0 ∧ rd M' 0 1 = rd M 0 1
section CP
variable {M M' N : Mem}
theorem OKb.slots {b : Bool} {g : Nat → Int × Int} {s s' : Nat → Int × Int} (h : OKb (b, g, s) M) (h0 : (s' 0).1 ≤ (rd M 133 0).toInt ∧ (rd M 133 0).toInt ≤ (s' 0).2) (h1 : (s' 1).1 ≤ (rd M 0 1).toInt ∧ (rd M 0 1).toInt ≤ (s' 1).2) (h2 : (s' 2).1 ≤ (rd M 133 3).toInt ∧ (rd M 133 3).toInt ≤ (s' 2).2) : OKb (b, g, s') M := by
  intro k j
  have hk := h k j
  by_cases e : (k = 0 ∧ j = 1) ∨ (k = 133 ∧ (j = 0 ∨ j = 3))
  · rcases e with ⟨rfl, rfl⟩ | ⟨rfl, rfl | rfl⟩
    · exact h1
    · exact h0
    · exact h2
  · have e2 : bxc (b, g, s') k j = bxc (b, g, s) k j := by
      unfold bxc
      by_cases k0 : k = 0
      · subst k0
        rw [if_pos rfl, if_pos rfl, if_neg (by omega), if_neg (by omega)]
      · by_cases k1 : k = 133
        · subst k1
          have j0 : ¬ j = 0 := by omega
          have j3 : ¬ j = 3 := by omega
          simp only [k0, j0, j3, if_false]
        · simp only [k0, k1, if_false]
    rw [e2]; exact hk
theorem slots {s : Nat → Int × Int} (h : OKb (fT s) M) : ((s 0).1 ≤ (rd M 133 0).toInt ∧ (rd M 133 0).toInt ≤ (s 0).2) ∧ ((s 1).1 ≤ (rd M 0 1).toInt ∧ (rd M 0 1).toInt ≤ (s 1).2) ∧ ((s 2).1 ≤ (rd M 133 3).toInt ∧ (rd M 133 3).toInt ≤ (s 2).2) := ⟨h 133 0, h 0 1, h 133 3⟩
theorem CI.m (h : CI M) : OKb (fT (sM M)) M := OKb.slots h.1 ⟨Int.le_refl _, Int.le_refl _⟩ ⟨Int.le_refl _, Int.le_refl _⟩ ⟨Int.le_refl _, Int.le_refl _⟩
theorem ck_of (h : CI M) (h' : OKb (fT (sM M)) M') : CK M M' := by
  obtain ⟨a0, a1, a2⟩ := slots h.1
  obtain ⟨b0, b1, b2⟩ := slots h'
  have b0 : (rd M 133 0).toInt ≤ (rd M' 133 0).toInt ∧ (rd M' 133 0).toInt ≤ (rd M 133 0).toInt := b0
  have b1 : (rd M 0 1).toInt ≤ (rd M' 0 1).toInt ∧ (rd M' 0 1).toInt ≤ (rd M 0 1).toInt := b1
  have b2 : (rd M 133 3).toInt ≤ (rd M' 133 3).toInt ∧ (rd M' 133 3).toInt ≤ (rd M 133 3).toInt := b2
  have e0 : rd M' 133 0 = rd M 133 0 := i_eq.mpr (by omega)
  have e1 : rd M' 0 1 = rd M 0 1 := i_eq.mpr (by omega)
  have e2 : rd M' 133 3 = rd M 133 3 := i_eq.mpr (by omega)
  refine ⟨⟨OKb.slots h' (by rw [e0]; exact a0) (by rw [e1]; exact a1) (by rw [e2]; exact a2), ?_⟩, e0, e1⟩
  rw [e0, e2]; exact h.2
theorem CI.sb (h : CI M) : SBi (sM M) M := by
  obtain ⟨a0, a1, a2⟩ := slots h.1
  exact ⟨OKb.slots h.1 a0 ⟨Int.le_refl _, Int.le_refl _⟩ a2, h.2⟩
theorem ckW (h : CI M) (h' : SBi (sM M) M') : CI M' ∧ rd M' 0 1 = rd M 0 1 := by
  obtain ⟨a0, a1, a2⟩ := slots h.1
  obtain ⟨b0, b1, b2⟩ := slots h'.1
  have b1 : (rd M 0 1).toInt ≤ (rd M' 0 1).toInt ∧ (rd M' 0 1).toInt ≤ (rd M 0 1).toInt := b1
  have e1 : rd M' 0 1 = rd M 0 1 := i_eq.mpr (by omega)
  exact ⟨⟨OKb.slots h'.1 b0 (by rw [e1]; exact a1) b2, h'.2⟩, e1⟩
theorem CI.b (h : CI M) : OKb (fT (sB (sM M))) M := by
  obtain ⟨a0, a1, a2⟩ := slots h.1
  exact OKb.slots h.1 ⟨Int.le_refl _, Int.le_refl _⟩ a1 ⟨Int.le_refl _, Int.le_refl _⟩
theorem sB_at (s : Nat → Int × Int) : sB s 0 = s 0 ∧ sB s 2 = s 2 ∧ sB s 1 = (0, 600) := ⟨if_neg (by decide), if_neg (by decide), if_pos rfl⟩
theorem sZ_at (s : Nat → Int × Int) : sZ s 0 = s 0 ∧ sZ s 2 = s 2 ∧ sZ s 1 = (0, 0) := ⟨if_neg (by decide), if_neg (by decide), if_pos rfl⟩
theorem ckB (h : CI M) {t : Nat → Int × Int} (ht : t 0 = sM M 0 ∧ t 2 = sM M 2 ∧ (t 1 = (0, 600) ∨ t 1 = (0, 0))) (h' : OKb (fT t) M') : CI M' ∧ rd M' 133 0 = rd M 133 0 := by
  obtain ⟨a0, a1, a2⟩ := slots h.1
  obtain ⟨b0, b1, b2⟩ := slots h'
  rw [ht.1] at b0
  rw [ht.2.1] at b2
  have b1 : (0 : Int) ≤ (rd M' 0 1).toInt ∧ (rd M' 0 1).toInt ≤ 600 := by
    rcases ht.2.2 with e | e
    · rw [e] at b1; exact b1
    · rw [e] at b1
      have b1 : (0 : Int) ≤ (rd M' 0 1).toInt ∧ (rd M' 0 1).toInt ≤ 0 := b1
      omega
  have b0 : (rd M 133 0).toInt ≤ (rd M' 133 0).toInt ∧ (rd M' 133 0).toInt ≤ (rd M 133 0).toInt := b0
  have b2 : (rd M 133 3).toInt ≤ (rd M' 133 3).toInt ∧ (rd M' 133 3).toInt ≤ (rd M 133 3).toInt := b2
  have e0 : rd M' 133 0 = rd M 133 0 := i_eq.mpr (by omega)
  have e2 : rd M' 133 3 = rd M 133 3 := i_eq.mpr (by omega)
  refine ⟨⟨OKb.slots h' (by rw [e0]; exact a0) ⟨by show (0 : Int) ≤ _; omega, by show _ ≤ (600 : Int); omega⟩ (by rw [e2]; exact a2), ?_⟩, e0⟩
  rw [e0, e2]; exact h.2
theorem pp1 {ρ : Type} {N' : Mem} {r : ρ} (h : PP M N) (hk : CK M M') (hn : MP N (N', r)) : PP M' N' := ⟨hk.1, hn.1, hk.2.2.trans (h.2.2.trans hn.2.symm)⟩
theorem pp0 {ρ : Type} {N' : Mem} {r : ρ} (h : PP M N) (hn : MP N (N', r)) : PP M N' := ⟨h.1, hn.1, h.2.2.trans hn.2.symm⟩
variable {a1 a2 a3 a4 a5 : Int32}

theorem pc_2 (h : PP M N) : Sf (mlc_2 a1 a2 a3 a4 a5 M N) (fun q => PP q.1 q.2) := by
  unfold mlc_2
  exact Sf.c (sX6_errorKind h.1.m) (fun r2 _ => Sf.m (mpi h.2.1 (fun g9 h9 => sX7_errorKind h9)) (fun N6 r5 p6 => Sf.ok (pp0 h p6)))
theorem pc_3 (h : PP M N) : Sf (mlc_3 a1 a2 a3 a4 a5 M N) (fun q => PP q.1 q.2) := by
  unfold mlc_3
  exact Sf.c (sX6_errorPosition h.1.m) (fun r2 _ => Sf.m (mpi h.2.1 (fun g9 h9 => sX7_errorPosition h9)) (fun N6 r5 p6 => Sf.ok (pp0 h p6)))
theorem pc_4 (h : PP M N) : Sf (mlc_4 a1 a2 a3 a4 a5 M N) (fun q => PP q.1 q.2) := by
  unfold mlc_4
  exact Sf.c (sX6_bends h.1.m) (fun r2 _ => Sf.m (mpi h.2.1 (fun g9 h9 => sX7_bends h9)) (fun N6 r5 p6 => Sf.ok (pp0 h p6)))
theorem pc_5 (h : PP M N) : Sf (mlc_5 a1 a2 a3 a4 a5 M N) (fun q => PP q.1 q.2) := by
  unfold mlc_5
  exact Sf.c (sX6_legs h.1.m) (fun r2 _ => Sf.m (mpi h.2.1 (fun g9 h9 => sX7_legs h9)) (fun N6 r5 p6 => Sf.ok (pp0 h p6)))
theorem pc_6 (h : PP M N) : Sf (mlc_6 a1 a2 a3 a4 a5 M N) (fun q => PP q.1 q.2) := by
  unfold mlc_6
  refine Sf.h (sL_leg h.1.m) (fun M3 r2 p => ?_) (fun M e h => absurd h.2 List.not_mem_nil)
  have c := ck_of h.1 p.1
  exact Sf.m (mpi h.2.1 (fun g9 h9 => sX7_leg h9)) (fun N6 r5 p6 => Sf.k (decide_eq_true c.2.1) (Sf.ok (pp1 h c p6)))
theorem pc_7 (h : PP M N) : Sf (mlc_7 a1 a2 a3 a4 a5 M N) (fun q => PP q.1 q.2) := by
  unfold mlc_7
  refine Sf.h (sL_isUp h.1.m) (fun M3 r2 p => ?_) (fun M e h => absurd h.2 List.not_mem_nil)
  have c := ck_of h.1 p.1
  exact Sf.m (mpi h.2.1 (fun g9 h9 => sX7_isUp h9)) (fun N6 r5 p6 => Sf.k (decide_eq_true c.2.1) (Sf.ok (pp1 h c p6)))
theorem pc_8 (h : PP M N) : Sf (mlc_8 a1 a2 a3 a4 a5 M N) (fun q => PP q.1 q.2) := by
  unfold mlc_8
  exact Sf.c (sX6_deduction h.1.m) (fun r2 _ => Sf.m (mp1 h.2.1 (fun g9 h9 => sX7_deduction h9)) (fun N6 r5 p6 => Sf.ok (pp0 h p6)))
theorem pc_9 (h : PP M N) : Sf (mlc_9 a1 a2 a3 a4 a5 M N) (fun q => PP q.1 q.2) := by
  unfold mlc_9
  exact Sf.c (sX6_flatLength h.1.m) (fun r2 _ => Sf.m (mp1 h.2.1 (fun g9 h9 => sX7_flatLength h9)) (fun N6 r5 p6 => Sf.ok (pp0 h p6)))
theorem pc_10 (h : PP M N) : Sf (mlc_10 a1 a2 a3 a4 a5 M N) (fun q => PP q.1 q.2) := by
  unfold mlc_10
  refine Sf.h (sL_linePlace h.1.m) (fun M3 r2 p => ?_) (fun M e h => absurd h.2 List.not_mem_nil)
  have c := ck_of h.1 p.1
  exact Sf.m (mp1 h.2.1 (fun g9 h9 => sX7_linePlace h9)) (fun N6 r5 p6 => Sf.k (decide_eq_true c.2.1) (Sf.ok (pp1 h c p6)))
theorem pc_11 (h : PP M N) : Sf (mlc_11 a1 a2 a3 a4 a5 M N) (fun q => PP q.1 q.2) := by
  unfold mlc_11
  exact Sf.c (sX6_ratio h.1.m) (fun r2 _ => Sf.m (mp1 h.2.1 (fun g9 h9 => sX7_ratio h9)) (fun N6 r5 p6 => Sf.ok (pp0 h p6)))
theorem pc_12 (h : PP M N) : Sf (mlc_12 a1 a2 a3 a4 a5 M N) (fun q => PP q.1 q.2) := by
  unfold mlc_12
  exact Sf.c (sX6_springBack h.1.m) (fun r2 _ => Sf.m (mp1 h.2.1 (fun g9 h9 => sX7_springBack h9)) (fun N6 r5 p6 => Sf.ok (pp0 h p6)))
theorem pc_14 (h : PP M N) : Sf (mlc_14 a1 a2 a3 a4 a5 M N) (fun q => PP q.1 q.2) := by
  unfold mlc_14
  exact Sf.c (sX6_swingAngle h.1.m) (fun r2 _ => Sf.m (mp1 h.2.1 (fun g9 h9 => sX7_swingAngle h9)) (fun N6 r5 p6 => Sf.ok (pp0 h p6)))
theorem pc_15 (h : PP M N) : Sf (mlc_15 a1 a2 a3 a4 a5 M N) (fun q => PP q.1 q.2) := by
  unfold mlc_15
  refine Sf.h (sL_tool h.1.m) (fun M3 r2 p => ?_) (fun M e h => absurd h.2 List.not_mem_nil)
  have c := ck_of h.1 p.1
  exact Sf.m (mpi h.2.1 (fun g9 h9 => sX7_tool h9)) (fun N6 r5 p6 => Sf.k (decide_eq_true c.2.1) (Sf.ok (pp1 h c p6)))
theorem pc_16 (h : PP M N) : Sf (mlc_16 a1 a2 a3 a4 a5 M N) (fun q => PP q.1 q.2) := by
  unfold mlc_16
  refine Sf.m (sX6_finishedWidth h.1.m) (fun M3 r2 p => ?_)
  have c := ck_of h.1 p.1
  exact Sf.m (mpi h.2.1 (fun g9 h9 => sX7_finishedWidth h9)) (fun N6 r5 p6 => Sf.k (decide_eq_true c.2.1) (Sf.ok (pp1 h c p6)))
theorem pc_17 (h : PP M N) : Sf (mlc_17 a1 a2 a3 a4 a5 M N) (fun q => PP q.1 q.2) := by
  unfold mlc_17
  refine Sf.m (sX6_finishedHeight h.1.m) (fun M3 r2 p => ?_)
  have c := ck_of h.1 p.1
  exact Sf.m (mpi h.2.1 (fun g9 h9 => sX7_finishedHeight h9)) (fun N6 r5 p6 => Sf.k (decide_eq_true c.2.1) (Sf.ok (pp1 h c p6)))
theorem pc_18 (h : PP M N) : Sf (mlc_18 a1 a2 a3 a4 a5 M N) (fun q => PP q.1 q.2) := by
  unfold mlc_18
  refine Sf.m (sX6_isFinishedCrossed h.1.m) (fun M3 r2 p => ?_)
  have c := ck_of h.1 p.1
  exact Sf.m (mpi h.2.1 (fun g9 h9 => sX7_isFinishedCrossed h9)) (fun N6 r5 p6 => Sf.k (decide_eq_true c.2.1) (Sf.ok (pp1 h c p6)))
theorem pc_19 (h : PP M N) : Sf (mlc_19 a1 a2 a3 a4 a5 M N) (fun q => PP q.1 q.2) := by
  unfold mlc_19
  refine Sf.h (sL_finishedCorner h.1.m) (fun M3 r2 p => ?_) (fun M e h => absurd h.2 List.not_mem_nil)
  have c := ck_of h.1 p.1
  exact Sf.m (mpi h.2.1 (fun g9 h9 => sX7_finishedCorner h9)) (fun N6 r5 p6 => Sf.k (decide_eq_true c.2.1) (Sf.ok (pp1 h c p6)))
theorem pc_20 (h : PP M N) : Sf (mlc_20 a1 a2 a3 a4 a5 M N) (fun q => PP q.1 q.2) := by
  unfold mlc_20
  exact Sf.c (sX6_isSymmetric h.1.m) (fun r2 _ => Sf.m (mpi h.2.1 (fun g9 h9 => sX7_isSymmetric h9)) (fun N6 r5 p6 => Sf.ok (pp0 h p6)))
theorem pc_21 (h : PP M N) : Sf (mlc_21 a1 a2 a3 a4 a5 M N) (fun q => PP q.1 q.2) := by
  unfold mlc_21
  exact Sf.c (sX6_longestLeg h.1.m) (fun r2 _ => Sf.m (mpi h.2.1 (fun g9 h9 => sX7_longestLeg h9)) (fun N6 r5 p6 => Sf.ok (pp0 h p6)))
theorem pc_22 (h : PP M N) : Sf (mlc_22 a1 a2 a3 a4 a5 M N) (fun q => PP q.1 q.2) := by
  unfold mlc_22
  exact Sf.c (sX6_made h.1.m) (fun r2 _ => Sf.m (mpi h.2.1 (fun g9 h9 => sX7_made h9)) (fun N6 r5 p6 => Sf.ok (pp0 h p6)))
theorem pc_23 (h : PP M N) : Sf (mlc_23 a1 a2 a3 a4 a5 M N) (fun q => PP q.1 q.2) := by
  unfold mlc_23
  exact Sf.c (sX6_steps h.1.m) (fun r2 _ => Sf.m (mpi h.2.1 (fun g9 h9 => sX7_steps h9)) (fun N6 r5 p6 => Sf.ok (pp0 h p6)))
theorem pc_24 (h : PP M N) : Sf (mlc_24 a1 a2 a3 a4 a5 M N) (fun q => PP q.1 q.2) := by
  unfold mlc_24
  refine Sf.h (sL_step h.1.m) (fun M3 r2 p => ?_) (fun M e h => absurd h.2 List.not_mem_nil)
  have c := ck_of h.1 p.1
  exact Sf.m (mpi h.2.1 (fun g9 h9 => sX7_step h9)) (fun N6 r5 p6 => Sf.k (decide_eq_true c.2.1) (Sf.ok (pp1 h c p6)))
theorem pc_25 (h : PP M N) : Sf (mlc_25 a1 a2 a3 a4 a5 M N) (fun q => PP q.1 q.2) := by
  unfold mlc_25
  exact Sf.c (sX6_costSoFar h.1.m) (fun r2 _ => Sf.m (mpi h.2.1 (fun g9 h9 => sX7_costSoFar h9)) (fun N6 r5 p6 => Sf.ok (pp0 h p6)))
theorem pc_26 (h : PP M N) : Sf (mlc_26 a1 a2 a3 a4 a5 M N) (fun q => PP q.1 q.2) := by
  unfold mlc_26
  refine Sf.h (sL_reason h.1.m) (fun M3 r2 p => ?_) (fun M e h => absurd h.2 List.not_mem_nil)
  have c := ck_of h.1 p.1
  exact Sf.m (mpi h.2.1 (fun g9 h9 => sX7_reason h9)) (fun N6 r5 p6 => Sf.k (decide_eq_true c.2.1) (Sf.ok (pp1 h c p6)))
theorem pc_27 (h : PP M N) : Sf (mlc_27 a1 a2 a3 a4 a5 M N) (fun q => PP q.1 q.2) := by
  unfold mlc_27
  refine Sf.h (sL_gauge h.1.m) (fun M3 r2 p => ?_) (fun M e h => absurd h.2 List.not_mem_nil)
  have c := ck_of h.1 p.1
  exact Sf.m (mpi h.2.1 (fun g9 h9 => sX7_gauge h9)) (fun N6 r5 p6 => Sf.k (decide_eq_true c.2.1) (Sf.ok (pp1 h c p6)))
theorem pc_28 (h : PP M N) : Sf (mlc_28 a1 a2 a3 a4 a5 M N) (fun q => PP q.1 q.2) := by
  unfold mlc_28
  refine Sf.h (sL_corner h.1.m) (fun M3 r2 p => ?_) (fun M e h => absurd h.2 List.not_mem_nil)
  have c := ck_of h.1 p.1
  exact Sf.m (mp1 h.2.1 (fun g9 h9 => sX7_corner h9)) (fun N6 r5 p6 => Sf.k (decide_eq_true c.2.1) (Sf.ok (pp1 h c p6)))
theorem pc_29 (h : PP M N) : Sf (mlc_29 a1 a2 a3 a4 a5 M N) (fun q => PP q.1 q.2) := by
  unfold mlc_29
  refine Sf.h (sL_top h.1.m) (fun M3 r2 p => ?_) (fun M e h => absurd h.2 List.not_mem_nil)
  have c := ck_of h.1 p.1
  exact Sf.m (mpi h.2.1 (fun g9 h9 => sX7_top h9)) (fun N6 r5 p6 => Sf.k (decide_eq_true c.2.1) (Sf.ok (pp1 h c p6)))
theorem pc_30 (h : PP M N) : Sf (mlc_30 a1 a2 a3 a4 a5 M N) (fun q => PP q.1 q.2) := by
  unfold mlc_30
  refine Sf.h (sL_hitting h.1.m) (fun M3 r2 p => ?_) (fun M e h => absurd h.2 List.not_mem_nil)
  have c := ck_of h.1 p.1
  exact Sf.m (mpi h.2.1 (fun g9 h9 => sX7_hitting h9)) (fun N6 r5 p6 => Sf.k (decide_eq_true c.2.1) (Sf.ok (pp1 h c p6)))
theorem pc_31 (h : PP M N) : Sf (mlc_31 a1 a2 a3 a4 a5 M N) (fun q => PP q.1 q.2) := by
  unfold mlc_31
  refine Sf.h (sL_refused h.1.m) (fun M3 r2 p => ?_) (fun M e h => absurd h.2 List.not_mem_nil)
  have c := ck_of h.1 p.1
  exact Sf.m (mpi h.2.1 (fun g9 h9 => sX7_refused h9)) (fun N6 r5 p6 => Sf.k (decide_eq_true c.2.1) (Sf.ok (pp1 h c p6)))
theorem pc_32 (h : PP M N) : Sf (mlc_32 a1 a2 a3 a4 a5 M N) (fun q => PP q.1 q.2) := by
  unfold mlc_32
  refine Sf.m (sX6_possible h.1.m) (fun M3 r2 p => ?_)
  have c := ck_of h.1 p.1
  exact Sf.m (mpi h.2.1 (fun g9 h9 => sX7_possible h9)) (fun N6 r5 p6 => Sf.k (decide_eq_true c.2.1) (Sf.ok (pp1 h c p6)))
theorem pc_33 (h : PP M N) : Sf (mlc_33 a1 a2 a3 a4 a5 M N) (fun q => PP q.1 q.2) := by
  unfold mlc_33
  refine Sf.m (sX6_stuck h.1.m) (fun M3 r2 p => ?_)
  have c := ck_of h.1 p.1
  exact Sf.m (mpi h.2.1 (fun g9 h9 => sX7_stuck h9)) (fun N6 r5 p6 => Sf.k (decide_eq_true c.2.1) (Sf.ok (pp1 h c p6)))
theorem pc_34 (h : PP M N) : Sf (mlc_34 a1 a2 a3 a4 a5 M N) (fun q => PP q.1 q.2) := by
  unfold mlc_34
  refine Sf.h (sL_costOf h.1.m) (fun M3 r2 p => ?_) (fun M e h => absurd h.2 List.not_mem_nil)
  have c := ck_of h.1 p.1
  exact Sf.m (mpi h.2.1 (fun g9 h9 => sX7_costOf h9)) (fun N6 r5 p6 => Sf.k (decide_eq_true c.2.1) (Sf.ok (pp1 h c p6)))
theorem pc_35 (h : PP M N) : Sf (mlc_35 a1 a2 a3 a4 a5 M N) (fun q => PP q.1 q.2) := by
  unfold mlc_35
  obtain ⟨n, m, hR⟩ := h.2.1.2.1
  refine Sf.m (sX6_orders h.1.m) (fun M3 r2 p => ?_)
  have c := ck_of h.1 p
  exact Sf.m (mp2 h.2.1 (fun g9 h9 => sX7_orders h9 hR)) (fun N6 r5 p6 => Sf.k (decide_eq_true c.2.1) (Sf.ok (pp1 h c p6)))
theorem pc_36 (h : PP M N) : Sf (mlc_36 a1 a2 a3 a4 a5 M N) (fun q => PP q.1 q.2) := by
  unfold mlc_36
  obtain ⟨n, m, hR⟩ := h.2.1.2.1
  refine Sf.m (sX6_leastCost h.1.m) (fun M3 r2 p => ?_)
  have c := ck_of h.1 p.1
  exact Sf.m (mp2 h.2.1 (fun g9 h9 => sX7_leastCost h9 hR)) (fun N6 r5 p6 => Sf.k (decide_eq_true c.2.1) (Sf.ok (pp1 h c p6)))
theorem pc_37 (h : PP M N) : Sf (mlc_37 a1 a2 a3 a4 a5 M N) (fun q => PP q.1 q.2) := by
  unfold mlc_37
  obtain ⟨n, m, hR⟩ := h.2.1.2.1
  refine Sf.m (sX6_plannedSteps h.1.m) (fun M3 r2 p => ?_)
  have c := ck_of h.1 p.1
  exact Sf.m (mp2 h.2.1 (fun g9 h9 => sX7_plannedSteps h9 hR)) (fun N6 r5 p6 => Sf.k (decide_eq_true c.2.1) (Sf.ok (pp1 h c p6)))
theorem pc_38 (h : PP M N) : Sf (mlc_38 a1 a2 a3 a4 a5 M N) (fun q => PP q.1 q.2) := by
  unfold mlc_38
  obtain ⟨n, m, hR⟩ := h.2.1.2.1
  refine Sf.h (sL_planned h.1.m) (fun M3 r2 p => ?_) (fun M e h => absurd h.2 List.not_mem_nil)
  have c := ck_of h.1 p.1
  exact Sf.m (mp2 h.2.1 (fun g9 h9 => sX7_planned h9 hR)) (fun N6 r5 p6 => Sf.k (decide_eq_true c.2.1) (Sf.ok (pp1 h c p6)))
theorem pc_39 (h : PP M N) : Sf (mlc_39 a1 a2 a3 a4 a5 M N) (fun q => PP q.1 q.2) := by
  unfold mlc_39
  obtain ⟨n, m, hR⟩ := h.2.1.2.1
  refine Sf.m (sX6_greatestCost h.1.m) (fun M3 r2 p => ?_)
  have c := ck_of h.1 p.1
  exact Sf.m (mp2 h.2.1 (fun g9 h9 => sX7_greatestCost h9 hR)) (fun N6 r5 p6 => Sf.k (decide_eq_true c.2.1) (Sf.ok (pp1 h c p6)))
theorem pc_40 (h : PP M N) : Sf (mlc_40 a1 a2 a3 a4 a5 M N) (fun q => PP q.1 q.2) := by
  unfold mlc_40
  obtain ⟨n, m, hR⟩ := h.2.1.2.1
  refine Sf.h (sL_ordersWith h.1.m) (fun M3 r2 p => ?_) (fun M e h => absurd h.2 List.not_mem_nil)
  have c := ck_of h.1 p.1
  exact Sf.m (mp2 h.2.1 (fun g9 h9 => sX7_ordersWith h9 hR)) (fun N6 r5 p6 => Sf.k (decide_eq_true c.2.1) (Sf.ok (pp1 h c p6)))
theorem pc_41 (h : PP M N) : Sf (mlc_41 a1 a2 a3 a4 a5 M N) (fun q => PP q.1 q.2) := by
  unfold mlc_41
  obtain ⟨n, m, hR⟩ := h.2.1.2.1
  refine Sf.m (sX6_lastSteps h.1.m) (fun M3 r2 p => ?_)
  have c := ck_of h.1 p.1
  exact Sf.m (mp2 h.2.1 (fun g9 h9 => sX7_lastSteps h9 hR)) (fun N6 r5 p6 => Sf.k (decide_eq_true c.2.1) (Sf.ok (pp1 h c p6)))
theorem pc_42 (h : PP M N) : Sf (mlc_42 a1 a2 a3 a4 a5 M N) (fun q => PP q.1 q.2) := by
  unfold mlc_42
  obtain ⟨n, m, hR⟩ := h.2.1.2.1
  refine Sf.m (sX6_mostBends h.1.m) (fun M3 r2 p => ?_)
  have c := ck_of h.1 p.1
  exact Sf.m (mp2 h.2.1 (fun g9 h9 => sX7_mostBends h9 hR)) (fun N6 r5 p6 => Sf.k (decide_eq_true c.2.1) (Sf.ok (pp1 h c p6)))
theorem pc_43 (h : PP M N) : Sf (mlc_43 a1 a2 a3 a4 a5 M N) (fun q => PP q.1 q.2) := by
  unfold mlc_43
  refine Sf.m (sX6_greatestBeam h.1.m) (fun M3 r2 p => ?_)
  have c := ck_of h.1 p.1
  exact Sf.m (sX7_greatestBeam h.2.1) (fun N6 r5 p6 => Sf.k (decide_eq_true c.2.1) (Sf.ok (pp1 h c p6)))
theorem pc_44 (h : PP M N) : Sf (mlc_44 a1 a2 a3 a4 a5 M N) (fun q => PP q.1 q.2) := by
  unfold mlc_44
  refine Sf.h (sL_costIfTurned h.1.m) (fun M3 r2 p => ?_) (fun M e h => absurd h.2 List.not_mem_nil)
  have c := ck_of h.1 p.1
  exact Sf.m (sX7_costIfTurned h.2.1) (fun N6 r5 p6 => Sf.k (decide_eq_true c.2.1) (Sf.ok (pp1 h c p6)))
theorem pc_46 (h : PP M N) : Sf (mlc_46 a1 a2 a3 a4 a5 M N) (fun q => PP q.1 q.2) := by
  unfold mlc_46
  refine Sf.h (sL_foldNext h.1.m) (fun M3 r2 p => ?_) (fun M e h => absurd h.2 List.not_mem_nil)
  have c := ck_of h.1 p.1
  exact Sf.m (sX7_foldNext h.2.1) (fun N6 r5 p6 => Sf.k (decide_eq_true c.2.1) (Sf.ok (pp1 h c p6)))
theorem pc_47 (h : PP M N) : Sf (mlc_47 a1 a2 a3 a4 a5 M N) (fun q => PP q.1 q.2) := by
  unfold mlc_47
  refine Sf.m (sX6_unfold h.1.m) (fun M3 r2 p => ?_)
  have c := ck_of h.1 p.1
  exact Sf.m (sX7_unfold h.2.1) (fun N6 r5 p6 => Sf.k (decide_eq_true c.2.1) (Sf.ok (pp1 h c p6)))
theorem pc_48 (h : PP M N) : Sf (mlc_48 a1 a2 a3 a4 a5 M N) (fun q => PP q.1 q.2) := by
  unfold mlc_48
  refine Sf.h (sL_setLeg h.1.m) (fun M3 r2 p => ?_) (fun M e h => absurd h.2 List.not_mem_nil)
  have c := ck_of h.1 p.1
  exact Sf.m (sX7_setLeg h.2.1) (fun N6 r5 p6 => Sf.k (decide_eq_true c.2.1) (Sf.ok (pp1 h c p6)))
theorem pc_50 (h : PP M N) : Sf (mlc_50 a1 a2 a3 a4 a5 M N) (fun q => PP q.1 q.2) := by
  unfold mlc_50
  refine Sf.h (sL_setTool h.1.m) (fun M3 r2 p => ?_) (fun M e h => absurd h.2 List.not_mem_nil)
  have c := ck_of h.1 p.1
  exact Sf.m (sX7_setTool h.2.1) (fun N6 r5 p6 => Sf.k (decide_eq_true c.2.1) (Sf.ok (pp1 h c p6)))
theorem pc_51 (h : PP M N) : Sf (mlc_51 a1 a2 a3 a4 a5 M N) (fun q => PP q.1 q.2) := by
  unfold mlc_51
  refine Sf.h (sL_setSheet h.1.m) (fun M3 r2 p => ?_) (fun M e h => absurd h.2 List.not_mem_nil)
  have c := ck_of h.1 p.1
  exact Sf.m (sX7_setSheet h.2.1) (fun N6 r5 p6 => Sf.k (decide_eq_true c.2.1) (Sf.ok (pp1 h c p6)))
theorem pc_52 (h : PP M N) : Sf (mlc_52 a1 a2 a3 a4 a5 M N) (fun q => PP q.1 q.2) := by
  unfold mlc_52
  refine Sf.h (sL_setCost h.1.m) (fun M3 r2 p => ?_) (fun M e h => absurd h.2 List.not_mem_nil)
  have c := ck_of h.1 p.1
  exact Sf.m (sX7_setCost h.2.1) (fun N6 r5 p6 => Sf.k (decide_eq_true c.2.1) (Sf.ok (pp1 h c p6)))
theorem pc_53 (h : PP M N) : Sf (mlc_53 a1 a2 a3 a4 a5 M N) (fun q => PP q.1 q.2) := by
  unfold mlc_53
  refine Sf.m (sX6_undo h.1.m) (fun M3 r2 p => ?_)
  have c := ck_of h.1 p.1
  exact Sf.m (sX7_undo h.2.1) (fun N6 r5 p6 => Sf.k (decide_eq_true c.2.1) (Sf.ok (pp1 h c p6)))
theorem pc_13 (h : PP M N) : Sf (mlc_13 a1 a2 a3 a4 a5 M N) (fun q => PP q.1 q.2) := by
  unfold mlc_13
  have m1 := (mg_arg a1).up (K' := 1070) (by decide)
  refine Sf.k (n64_of m1 (by decide)) (Sf.h (sL_springBackFor h.1.m m1) (fun M3 r2 p => ?_) (fun M e h => absurd h.2 List.not_mem_nil))
  have c := ck_of h.1 p.1
  exact Sf.k (n64_of m1 (by decide)) (Sf.m (mp1 h.2.1 (fun g9 h9 => sX7_springBackFor h9 m1)) (fun N6 r5 p6 => Sf.k (decide_eq_true c.2.1) (Sf.ok (pp1 h c p6))))
theorem pc_49 (h : PP M N) : Sf (mlc_49 a1 a2 a3 a4 a5 M N) (fun q => PP q.1 q.2) := by
  unfold mlc_49
  refine Sf.i (fun _ => ?_) (fun _ => ?_)
  · refine Sf.h (sL_setDirection h.1.m) (fun M3 r2 p => ?_) (fun M e h => absurd h.2 List.not_mem_nil)
    have c := ck_of h.1 p.1
    exact Sf.i (fun _ => Sf.m (sX7_setDirection h.2.1) (fun N6 r5 p6 => Sf.k (decide_eq_true c.2.1) (Sf.ok (pp1 h c p6)))) (fun _ => Sf.m (sX7_setDirection h.2.1) (fun N6 r5 p6 => Sf.k (decide_eq_true c.2.1) (Sf.ok (pp1 h c p6))))
  · refine Sf.h (sL_setDirection h.1.m) (fun M3 r2 p => ?_) (fun M e h => absurd h.2 List.not_mem_nil)
    have c := ck_of h.1 p.1
    exact Sf.i (fun _ => Sf.m (sX7_setDirection h.2.1) (fun N6 r5 p6 => Sf.k (decide_eq_true c.2.1) (Sf.ok (pp1 h c p6)))) (fun _ => Sf.m (sX7_setDirection h.2.1) (fun N6 r5 p6 => Sf.k (decide_eq_true c.2.1) (Sf.ok (pp1 h c p6))))
theorem pc_54 (h : PP M N) : Sf (mlc_54 a1 a2 a3 a4 a5 M N) (fun q => PP q.1 q.2) := by
  unfold mlc_54
  refine Sf.m (sX6_write h.1.sb) (fun M3 r2 p => ?_)
  have c := ckW h.1 p
  exact Sf.m (sX7_write h.2.1) (fun N6 r5 p6 => Sf.ok ⟨c.1, p6.1, c.2.trans (h.2.2.trans p6.2.symm)⟩)
theorem pc_55 (h : PP M N) : Sf (mlc_55 a1 a2 a3 a4 a5 M N) (fun q => PP q.1 q.2) := by
  unfold mlc_55
  refine Sf.h (sL_written h.1.sb) (fun M3 r2 p => ?_) (fun M e h => by obtain ⟨_, _, r, h⟩ := h; cases h)
  have c := ckW h.1 p.1
  exact Sf.m (sX7_written h.2.1) (fun N6 r5 p6 => Sf.k (decide_eq_true (p.2.1 133 0)) (Sf.ok ⟨c.1, p6.1, c.2.trans (h.2.2.trans p6.2.symm)⟩))
/-- and what is read alike -/
def PP3 (M N : Mem) : Prop := PP M N ∧ BF M N ∧ (rd M 2 0 = rd N 135 8 ∧ rd M 2 1 = rd N 135 9)
theorem pc3 {x : Option (Mem × Mem)} (h : PP3 M N) (hx : Sf x (fun q => PP q.1 q.2)) (hf : Pc x (fun q => KS SA M q.1 ∧ KS SB2 N q.2)) : Sf x (fun q => PP3 q.1 q.2) := by
  refine Sf.mono (hx.pc hf) (fun q p => ⟨p.1, ⟨fun i hi => ?_, ?_, ?_⟩, ?_, ?_⟩)
  · have k1 := p.2.1 1 i (show ¬ 5 ≤ 1 by omega)
    have k2 := p.2.2 140 i (fun z => z.1 rfl)
    rw [p.2.2 135 7 (by decide)] at hi
    rw [k1, k2]; exact h.2.1.bb i hi
  · exact p.1.2.2
  · rw [p.2.2 135 7 (by decide)]; exact h.2.1.b0
  · rw [p.2.1 2 0 (by decide), p.2.2 135 8 (by decide)]; exact h.2.2.1
  · rw [p.2.1 2 1 (by decide), p.2.2 135 9 (by decide)]; exact h.2.2.2
theorem feed_run (h : PP3 M N) : ∃ M3 r2 N6 r5, mX6_feed 0 a1 a2 a3 a4 a5 M = some (M3, r2) ∧ mX7_feed 135 a1 a2 a3 a4 a5 N = some (N6, r5) ∧ PP3 M3 N6 ∧ rd M3 133 0 = rd M 133 0 ∧ r2 = r5 := by
  obtain ⟨⟨M3, r2⟩, e1, p⟩ := sX6_feed_ex (x1 := a1) (x2 := a2) (x3 := a3) (x4 := a4) (x5 := a5) h.1.1.b
  obtain ⟨⟨N6, r5⟩, e2, p6⟩ := sX7_feed (x1 := a1) (x2 := a2) (x3 := a3) (x4 := a4) (x5 := a5) h.1.2.1
  have r := feed_R h.2.1 _ _ e1 e2
  have c := ckB h.1.1 (t := sB (sM M)) ⟨(sB_at _).1, (sB_at _).2.1, Or.inl (sB_at _).2.2⟩ p.1
  have kM : KS SFc M M3 := r.2.1
  have kN : KS SFr N N6 := r.2.2.1
  refine ⟨M3, r2, N6, r5, e1, e2, ⟨⟨c.1, p6.1, r.1.bn⟩, r.1, ?_, ?_⟩, c.2, r.2.2.2⟩
  · rw [kM 2 0 (by decide), kN 135 8 (by decide)]; exact h.2.2.1
  · rw [kM 2 1 (by decide), kN 135 9 (by decide)]; exact h.2.2.2
theorem load_run (h : PP3 M N) : ∃ M3 r2 N6 r5, mL_load 0 152 a1 M = some (M3, Sum.inl r2) ∧ mX7_load 135 a1 N = some (N6, r5) ∧ PP3 M3 N6 ∧ rd M3 133 0 = rd M 133 0 ∧ rd N6 135 5 = r2 ∧ (r2 = 0 → rl M3 152 0 = r5.toInt64) := by
  obtain ⟨⟨M3, s⟩, e1, ⟨r2, hs⟩, p⟩ := sL_load_ex (k1 := 152) (x1 := a1) h.1.1.b
  have hs : s = Sum.inl r2 := hs
  subst hs
  obtain ⟨⟨N6, r5⟩, e2, p6⟩ := sX7_load (x1 := a1) h.1.2.1
  have e := congrArg Int32.toInt h.1.2.2
  have q6 : (rd N6 135 7 = rd N 135 7 ∧ ¬ (0 ≤ a1.toInt ∧ a1.toInt ≤ (rd N 135 7).toInt)) ∨ ((rd N6 135 7).toInt = 0 ∧ 0 ≤ a1.toInt ∧ a1.toInt ≤ (rd N 135 7).toInt) := p6.2
  have hPP : CI M3 ∧ rd M3 133 0 = rd M 133 0 ∧ rd M3 0 1 = rd N6 135 7 := by
    rcases p with ⟨h3, k1, k2, k3, hc⟩ | ⟨h3, hc⟩
    · have c := ckB h.1.1 (t := sB (sM M)) ⟨(sB_at _).1, (sB_at _).2.1, Or.inl (sB_at _).2.2⟩ h3
      have k1 : (rd M3 0 1).toInt = (rd M 0 1).toInt := k1
      refine ⟨c.1, c.2, i_eq.mpr ?_⟩
      rcases q6 with ⟨q, _⟩ | ⟨_, q⟩
      · show (rd M3 0 1).toInt = (rd N6 135 7).toInt
        rw [q]; omega
      · omega
    · have c := ckB h.1.1 (t := sZ (sM M)) ⟨(sZ_at _).1, (sZ_at _).2.1, Or.inr (sZ_at _).2.2⟩ h3
      have z := (slots (M := M3) h3).2.1
      rw [(sZ_at _).2.2] at z
      have z : (0 : Int) ≤ (rd M3 0 1).toInt ∧ (rd M3 0 1).toInt ≤ 0 := z
      refine ⟨c.1, c.2, i_eq.mpr ?_⟩
      show (rd M3 0 1).toInt = (rd N6 135 7).toInt
      rcases q6 with ⟨_, q⟩ | ⟨q, _⟩
      · omega
      · omega
  have e3 := e1
  unfold mL_load at e3
  have lr : ∀ a, mX6_load 0 a1 M = some a → LR M N a (N6, r5) := fun a ha => load_R h.2.1.bb h.1.2.1 h.2.1.bn _ _ ha e2
  rcases calt_s e3 with ⟨M0, r, q1, q2⟩ | ⟨M0, w, q1, q2⟩
  · rcases lr _ q1 with ⟨_, q, _⟩ | ⟨h5, hr, her, _⟩
    · cases q
    · obtain ⟨_, q2⟩ := chk_s q2
      obtain ⟨M7, e7, q3⟩ := bnd_s q2
      cases q3
      have er : r = r5 := Sum.inl.inj hr
      refine ⟨M3, 0, N6, r5, e1, e2, ⟨⟨hPP.1, p6.1, hPP.2.2⟩, ⟨fun i hi => ?_, hPP.2.2, ?_⟩, ?_, ?_⟩, hPP.2.1, h5, fun _ => ?_⟩
      · rcases q6 with ⟨q, hn⟩ | ⟨q, _⟩
        · rcases p with ⟨_, _, _, _, hc⟩ | ⟨_, hc⟩
          · exfalso
            rcases sX6_load_ex (x1 := a1) h.1.1.b with ⟨y, ey, py⟩
            rw [q1] at ey
            cases ey
            rcases py with ⟨_, z, _⟩ | ⟨_, _, z1, z2⟩
            · cases z
            · omega
          · exfalso; omega
        · omega
      · rcases q6 with ⟨q, _⟩ | ⟨q, _⟩
        · rw [q]; exact h.2.1.b0
        · omega
      · rw [e7]; exact her.1
      · rw [e7]; exact her.2
      · rw [e7, ← er]
        show rl (wl M0 152 0 r.toInt64) 152 0 = _
        exact rl_we
  · rcases lr _ q1 with ⟨hM, hw, h5, kN⟩ | ⟨_, q, _⟩
    · have hw : w = 0 := Sum.inr.inj hw
      have q2 := ite_t hw q2
      cases q2
      have hM : M3 = M := hM
      subst hM
      have kN : KS (fun k j => k = 135 ∧ j = 5) N N6 := kN
      refine ⟨M3, 1, N6, r5, e1, e2, ⟨⟨hPP.1, p6.1, hPP.2.2⟩, ⟨fun i hi => ?_, hPP.2.2, ?_⟩, ?_, ?_⟩, rfl, h5, fun q => absurd q (by decide)⟩
      · rw [kN 135 7 (by decide)] at hi
        rw [kN 140 i (fun z => absurd z.1 (by decide))]; exact h.2.1.bb i hi
      · rw [kN 135 7 (by decide)]; exact h.2.1.b0
      · rw [kN 135 8 (by decide)]; exact h.2.2.1
      · rw [kN 135 9 (by decide)]; exact h.2.2.2
    · cases q
theorem calh_3 {ρ β : Type} {M : Mem} {r : ρ} {k : Mem → ρ → Option β} : calh (some (M, Sum.inl r)) k = k M r := rfl
theorem lg_self {a : Int64} : lg_cmp a a = 0 := by
  unfold lg_cmp
  rw [if_neg (fun h => by have := Int64.lt_iff_toInt_lt.mp h; omega), if_pos rfl]
theorem q3_0 (h : PP3 M N) : Sf (mlc_0 a1 a2 a3 a4 a5 M N) (fun q => PP3 q.1 q.2) := by
  obtain ⟨M3, r2, N6, r5, e1, e2, hp, hf, hr⟩ := feed_run (a1 := a1) (a2 := a2) (a3 := a3) (a4 := a4) (a5 := a5) h
  unfold mlc_0
  rw [e1, cal_some, e2, cal_some]
  exact Sf.k (decide_eq_true hf) (Sf.ok hp)
theorem q3_1 (h : PP3 M N) : Sf (mlc_1 a1 a2 a3 a4 a5 M N) (fun q => PP3 q.1 q.2) := by
  obtain ⟨M3, r2, N6, r5, e1, e2, hp, hf, h5, hr⟩ := load_run (a1 := a1) h
  unfold mlc_1
  rw [e1, calh_3, e2, cal_some]
  exact Sf.k (decide_eq_true hf) (Sf.ok hp)
theorem q3_2 (h : PP3 M N) : Sf (mlc_2 a1 a2 a3 a4 a5 M N) (fun q => PP3 q.1 q.2) := pc3 h (pc_2 h.1) fc_2
theorem q3_3 (h : PP3 M N) : Sf (mlc_3 a1 a2 a3 a4 a5 M N) (fun q => PP3 q.1 q.2) := pc3 h (pc_3 h.1) fc_3
/-- and all that both hold -/
def PP4 (M N : Mem) : Prop := PP3 M N ∧ SS M N
theorem Sf.se {α : Type} {x : Option α} {P : α → Prop} (h : Sf x P) : Sf x (fun q => P q ∧ x = some q) := by
  obtain ⟨y, e, hp⟩ := h
  exact ⟨y, e, hp, e⟩
theorem pc4 {x : Option (Mem × Mem)} (hx : Sf x (fun q => PP3 q.1 q.2)) (hs : Pc x (fun q => SS q.1 q.2)) : Sf x (fun q => PP4 q.1 q.2) := Sf.mono (hx.pc hs) (fun q p => ⟨p.1, p.2⟩)
theorem nz3 : ∀ e : Nat, ¬ nmb3 e = 0 := fun e => by unfold nmb3; split; · decide
                                                     · split <;> decide
theorem LX.cmp {β : Type} {val : β → Int64} {num : Nat → Int32} {p : Mem × (β ⊕ Nat)} {M3 N6 : Mem} {r2 : Int32} {r5 : β} (hx : LX val num p (M3, Sum.inl r2)) (x : XR num p (N6, r5)) (hn : ∀ e, ¬ num e = 0) : rd N6 135 5 = r2 ∧ (r2 = 0 → rl M3 152 0 = val r5) := by
  rcases hx.2.2 with ⟨v, e1, e2, e3⟩ | ⟨e, e1, e2⟩
  · have e2 : r2 = 0 := Sum.inl.inj e2
    have q := x.1 v e1
    refine ⟨q.1.trans e2.symm, fun _ => ?_⟩
    have e4 : v = r5 := q.2
    rw [← e4]; exact e3
  · have e2 : r2 = num e := Sum.inl.inj e2
    exact ⟨(x.2 e e1).trans e2.symm, fun z => absurd (e2.symm.trans z) (hn e)⟩
theorem LXd.cmp {num : Nat → Int32} {p : Mem × (UInt64 ⊕ Nat)} {M3 N6 : Mem} {r2 : Int32} {r5 : UInt64} (hx : LXd num p (M3, Sum.inl r2)) (x : XR num p (N6, r5)) (hn : ∀ e, ¬ num e = 0) : rd N6 135 5 = r2 ∧ (r2 = 0 → M3.2.2 153 0 = r5) := by
  rcases hx.2.2 with ⟨v, e1, e2, e3⟩ | ⟨e, e1, e2⟩
  · have e2 : r2 = 0 := Sum.inl.inj e2
    have q := x.1 v e1
    refine ⟨q.1.trans e2.symm, fun _ => ?_⟩
    have e4 : v = r5 := q.2
    rw [← e4]; exact e3
  · have e2 : r2 = num e := Sum.inl.inj e2
    exact ⟨(x.2 e e1).trans e2.symm, fun z => absurd (e2.symm.trans z) (hn e)⟩
theorem sc_0 (h : PP4 M N) : Pc (mlc_0 a1 a2 a3 a4 a5 M N) (fun q => SS q.1 q.2) := by
  unfold mlc_0
  exact Pc.m (Pc.self _) (fun M3 r2 e1 => Pc.m (Pc.self _) (fun N6 r5 e2 => (Pc.k (fun _ => (Pc.ok (feed_SS h.2 e1 e2))))))
theorem sc_1 (h : PP4 M N) : Pc (mlc_1 a1 a2 a3 a4 a5 M N) (fun q => SS q.1 q.2) := by
  unfold mlc_1
  refine Pc.h hl_load (fun M3 r2 p => ?_)
  obtain ⟨pp, ep, hx⟩ := p
  exact Pc.m (Pc.self _) (fun N6 r5 e2 => (Pc.k (fun _ => (Pc.ok ((load_SS h.2 h.1.2.1.bb h.1.1.2.1 h.1.1.2.2 ep e2 ((sX7_load (x1 := a1) h.1.1.2.1).toPc _ e2).1).lx hx)))))
theorem sc_2 (h : PP4 M N) : Pc (mlc_2 a1 a2 a3 a4 a5 M N) (fun q => SS q.1 q.2) := by
  unfold mlc_2
  exact Pc.c (Pc.self _) (fun r2 e1 => Pc.m (Pc.self _) (fun N6 r5 e2 => (Pc.ok (ss_errorKind h.2 e2))))
theorem sc_3 (h : PP4 M N) : Pc (mlc_3 a1 a2 a3 a4 a5 M N) (fun q => SS q.1 q.2) := by
  unfold mlc_3
  exact Pc.c (Pc.self _) (fun r2 e1 => Pc.m (Pc.self _) (fun N6 r5 e2 => (Pc.ok (ss_errorPosition h.2 e2))))
theorem sc_4 (h : PP4 M N) : Pc (mlc_4 a1 a2 a3 a4 a5 M N) (fun q => SS q.1 q.2) := by
  unfold mlc_4
  exact Pc.c (Pc.self _) (fun r2 e1 => Pc.m (Pc.self _) (fun N6 r5 e2 => (Pc.ok (ss_bends h.2 e2))))
theorem sc_5 (h : PP4 M N) : Pc (mlc_5 a1 a2 a3 a4 a5 M N) (fun q => SS q.1 q.2) := by
  unfold mlc_5
  exact Pc.c (Pc.self _) (fun r2 e1 => Pc.m (Pc.self _) (fun N6 r5 e2 => (Pc.ok (ss_legs h.2 e2))))
theorem sc_6 (h : PP4 M N) : Pc (mlc_6 a1 a2 a3 a4 a5 M N) (fun q => SS q.1 q.2) := by
  unfold mlc_6
  refine Pc.h hl_leg (fun M3 r2 p => ?_)
  obtain ⟨pp, ep, hx⟩ := p
  exact Pc.m (Pc.self _) (fun N6 r5 e2 => (Pc.k (fun _ => (Pc.ok ((ss_leg h.2 h.1.1.2.1 ep e2).lx hx)))))
theorem sc_7 (h : PP4 M N) : Pc (mlc_7 a1 a2 a3 a4 a5 M N) (fun q => SS q.1 q.2) := by
  unfold mlc_7
  refine Pc.h hl_isUp (fun M3 r2 p => ?_)
  obtain ⟨pp, ep, hx⟩ := p
  exact Pc.m (Pc.self _) (fun N6 r5 e2 => (Pc.k (fun _ => (Pc.ok ((ss_isUp h.2 h.1.1.2.1 ep e2).lx hx)))))
theorem sc_8 (h : PP4 M N) : Pc (mlc_8 a1 a2 a3 a4 a5 M N) (fun q => SS q.1 q.2) := by
  unfold mlc_8
  exact Pc.c (Pc.self _) (fun r2 e1 => Pc.m (Pc.self _) (fun N6 r5 e2 => (Pc.ok (ss_deduction h.2 e2))))
theorem sc_9 (h : PP4 M N) : Pc (mlc_9 a1 a2 a3 a4 a5 M N) (fun q => SS q.1 q.2) := by
  unfold mlc_9
  exact Pc.c (Pc.self _) (fun r2 e1 => Pc.m (Pc.self _) (fun N6 r5 e2 => (Pc.ok (ss_flatLength h.2 e2))))
theorem sc_10 (h : PP4 M N) : Pc (mlc_10 a1 a2 a3 a4 a5 M N) (fun q => SS q.1 q.2) := by
  unfold mlc_10
  refine Pc.h hl_linePlace (fun M3 r2 p => ?_)
  obtain ⟨pp, ep, hx⟩ := p
  exact Pc.m (Pc.self _) (fun N6 r5 e2 => (Pc.k (fun _ => (Pc.ok ((ss_linePlace h.2 h.1.1.2.1 ep e2).lxd hx)))))
theorem sc_11 (h : PP4 M N) : Pc (mlc_11 a1 a2 a3 a4 a5 M N) (fun q => SS q.1 q.2) := by
  unfold mlc_11
  exact Pc.c (Pc.self _) (fun r2 e1 => Pc.m (Pc.self _) (fun N6 r5 e2 => (Pc.ok (ss_ratio h.2 e2))))
theorem sc_12 (h : PP4 M N) : Pc (mlc_12 a1 a2 a3 a4 a5 M N) (fun q => SS q.1 q.2) := by
  unfold mlc_12
  exact Pc.c (Pc.self _) (fun r2 e1 => Pc.m (Pc.self _) (fun N6 r5 e2 => (Pc.ok (ss_springBack h.2 e2))))
theorem sc_13 (h : PP4 M N) : Pc (mlc_13 a1 a2 a3 a4 a5 M N) (fun q => SS q.1 q.2) := by
  unfold mlc_13
  refine Pc.k (fun _ => Pc.h hl_springBackFor (fun M3 r2 p => ?_))
  obtain ⟨pp, ep, hx⟩ := p
  exact Pc.k (fun _ => Pc.m (Pc.self _) (fun N6 r5 e2 => (Pc.k (fun _ => (Pc.ok ((ss_springBackFor h.2 h.1.1.2.1 ep e2).lxd hx))))))
theorem sc_14 (h : PP4 M N) : Pc (mlc_14 a1 a2 a3 a4 a5 M N) (fun q => SS q.1 q.2) := by
  unfold mlc_14
  exact Pc.c (Pc.self _) (fun r2 e1 => Pc.m (Pc.self _) (fun N6 r5 e2 => (Pc.ok (ss_swingAngle h.2 e2))))
theorem sc_15 (h : PP4 M N) : Pc (mlc_15 a1 a2 a3 a4 a5 M N) (fun q => SS q.1 q.2) := by
  unfold mlc_15
  refine Pc.h hl_tool (fun M3 r2 p => ?_)
  obtain ⟨pp, ep, hx⟩ := p
  exact Pc.m (Pc.self _) (fun N6 r5 e2 => (Pc.k (fun _ => (Pc.ok ((ss_tool h.2 h.1.1.2.1 ep e2).lx hx)))))
theorem sc_16 (h : PP4 M N) : Pc (mlc_16 a1 a2 a3 a4 a5 M N) (fun q => SS q.1 q.2) := by
  unfold mlc_16
  exact Pc.m (Pc.self _) (fun M3 r2 e1 => Pc.m (Pc.self _) (fun N6 r5 e2 => (Pc.k (fun _ => (Pc.ok (ss_finishedWidth h.2 h.1.1.2.1 e1 e2))))))
theorem sc_17 (h : PP4 M N) : Pc (mlc_17 a1 a2 a3 a4 a5 M N) (fun q => SS q.1 q.2) := by
  unfold mlc_17
  exact Pc.m (Pc.self _) (fun M3 r2 e1 => Pc.m (Pc.self _) (fun N6 r5 e2 => (Pc.k (fun _ => (Pc.ok (ss_finishedHeight h.2 h.1.1.2.1 e1 e2))))))
theorem sc_18 (h : PP4 M N) : Pc (mlc_18 a1 a2 a3 a4 a5 M N) (fun q => SS q.1 q.2) := by
  unfold mlc_18
  exact Pc.m (Pc.self _) (fun M3 r2 e1 => Pc.m (Pc.self _) (fun N6 r5 e2 => (Pc.k (fun _ => (Pc.ok (ss_isFinishedCrossed h.2 h.1.1.2.1 e1 e2))))))
theorem sc_19 (h : PP4 M N) : Pc (mlc_19 a1 a2 a3 a4 a5 M N) (fun q => SS q.1 q.2) := by
  unfold mlc_19
  refine Pc.h hl_finishedCorner (fun M3 r2 p => ?_)
  obtain ⟨pp, ep, hx⟩ := p
  exact Pc.m (Pc.self _) (fun N6 r5 e2 => (Pc.k (fun _ => (Pc.ok ((ss_finishedCorner h.2 h.1.1.2.1 ep e2).lx hx)))))
theorem sc_20 (h : PP4 M N) : Pc (mlc_20 a1 a2 a3 a4 a5 M N) (fun q => SS q.1 q.2) := by
  unfold mlc_20
  exact Pc.c (Pc.self _) (fun r2 e1 => Pc.m (Pc.self _) (fun N6 r5 e2 => (Pc.ok (ss_isSymmetric h.2 e2))))
theorem sc_21 (h : PP4 M N) : Pc (mlc_21 a1 a2 a3 a4 a5 M N) (fun q => SS q.1 q.2) := by
  unfold mlc_21
  exact Pc.c (Pc.self _) (fun r2 e1 => Pc.m (Pc.self _) (fun N6 r5 e2 => (Pc.ok (ss_longestLeg h.2 e2))))
theorem sc_22 (h : PP4 M N) : Pc (mlc_22 a1 a2 a3 a4 a5 M N) (fun q => SS q.1 q.2) := by
  unfold mlc_22
  exact Pc.c (Pc.self _) (fun r2 e1 => Pc.m (Pc.self _) (fun N6 r5 e2 => (Pc.ok (ss_made h.2 e2))))
theorem sc_23 (h : PP4 M N) : Pc (mlc_23 a1 a2 a3 a4 a5 M N) (fun q => SS q.1 q.2) := by
  unfold mlc_23
  exact Pc.c (Pc.self _) (fun r2 e1 => Pc.m (Pc.self _) (fun N6 r5 e2 => (Pc.ok (ss_steps h.2 e2))))
theorem sc_24 (h : PP4 M N) : Pc (mlc_24 a1 a2 a3 a4 a5 M N) (fun q => SS q.1 q.2) := by
  unfold mlc_24
  refine Pc.h hl_step (fun M3 r2 p => ?_)
  obtain ⟨pp, ep, hx⟩ := p
  exact Pc.m (Pc.self _) (fun N6 r5 e2 => (Pc.k (fun _ => (Pc.ok ((ss_step h.2 h.1.1.2.1 ep e2).lx hx)))))
theorem sc_25 (h : PP4 M N) : Pc (mlc_25 a1 a2 a3 a4 a5 M N) (fun q => SS q.1 q.2) := by
  unfold mlc_25
  exact Pc.c (Pc.self _) (fun r2 e1 => Pc.m (Pc.self _) (fun N6 r5 e2 => (Pc.ok (ss_costSoFar h.2 e2))))
theorem sc_26 (h : PP4 M N) : Pc (mlc_26 a1 a2 a3 a4 a5 M N) (fun q => SS q.1 q.2) := by
  unfold mlc_26
  refine Pc.h hl_reason (fun M3 r2 p => ?_)
  obtain ⟨pp, ep, hx⟩ := p
  exact Pc.m (Pc.self _) (fun N6 r5 e2 => (Pc.k (fun _ => (Pc.ok ((ss_reason h.2 h.1.1.2.1 ep e2).lx hx)))))
theorem sc_27 (h : PP4 M N) : Pc (mlc_27 a1 a2 a3 a4 a5 M N) (fun q => SS q.1 q.2) := by
  unfold mlc_27
  refine Pc.h hl_gauge (fun M3 r2 p => ?_)
  obtain ⟨pp, ep, hx⟩ := p
  exact Pc.m (Pc.self _) (fun N6 r5 e2 => (Pc.k (fun _ => (Pc.ok ((ss_gauge h.2 h.1.1.2.1 ep e2).lx hx)))))
theorem sc_28 (h : PP4 M N) : Pc (mlc_28 a1 a2 a3 a4 a5 M N) (fun q => SS q.1 q.2) := by
  unfold mlc_28
  refine Pc.h hl_corner (fun M3 r2 p => ?_)
  obtain ⟨pp, ep, hx⟩ := p
  exact Pc.m (Pc.self _) (fun N6 r5 e2 => (Pc.k (fun _ => (Pc.ok ((ss_corner h.2 h.1.1.2.1 ep e2).lx hx)))))
theorem sc_29 (h : PP4 M N) : Pc (mlc_29 a1 a2 a3 a4 a5 M N) (fun q => SS q.1 q.2) := by
  unfold mlc_29
  refine Pc.h hl_top (fun M3 r2 p => ?_)
  obtain ⟨pp, ep, hx⟩ := p
  exact Pc.m (Pc.self _) (fun N6 r5 e2 => (Pc.k (fun _ => (Pc.ok ((ss_top h.2 h.1.1.2.1 ep e2).lx hx)))))
theorem sc_30 (h : PP4 M N) : Pc (mlc_30 a1 a2 a3 a4 a5 M N) (fun q => SS q.1 q.2) := by
  unfold mlc_30
  refine Pc.h hl_hitting (fun M3 r2 p => ?_)
  obtain ⟨pp, ep, hx⟩ := p
  exact Pc.m (Pc.self _) (fun N6 r5 e2 => (Pc.k (fun _ => (Pc.ok ((ss_hitting h.2 h.1.1.2.1 ep e2).lx hx)))))
theorem sc_31 (h : PP4 M N) : Pc (mlc_31 a1 a2 a3 a4 a5 M N) (fun q => SS q.1 q.2) := by
  unfold mlc_31
  refine Pc.h hl_refused (fun M3 r2 p => ?_)
  obtain ⟨pp, ep, hx⟩ := p
  exact Pc.m (Pc.self _) (fun N6 r5 e2 => (Pc.k (fun _ => (Pc.ok ((ss_refused h.2 h.1.1.2.1 ep e2).lx hx)))))
theorem sc_32 (h : PP4 M N) : Pc (mlc_32 a1 a2 a3 a4 a5 M N) (fun q => SS q.1 q.2) := by
  unfold mlc_32
  exact Pc.m (Pc.self _) (fun M3 r2 e1 => Pc.m (Pc.self _) (fun N6 r5 e2 => (Pc.k (fun _ => (Pc.ok (ss_possible h.2 h.1.1.2.1 e1 e2))))))
theorem sc_33 (h : PP4 M N) : Pc (mlc_33 a1 a2 a3 a4 a5 M N) (fun q => SS q.1 q.2) := by
  unfold mlc_33
  exact Pc.m (Pc.self _) (fun M3 r2 e1 => Pc.m (Pc.self _) (fun N6 r5 e2 => (Pc.k (fun _ => (Pc.ok (ss_stuck h.2 h.1.1.2.1 e1 e2))))))
theorem sc_34 (h : PP4 M N) : Pc (mlc_34 a1 a2 a3 a4 a5 M N) (fun q => SS q.1 q.2) := by
  unfold mlc_34
  refine Pc.h hl_costOf (fun M3 r2 p => ?_)
  obtain ⟨pp, ep, hx⟩ := p
  exact Pc.m (Pc.self _) (fun N6 r5 e2 => (Pc.k (fun _ => (Pc.ok ((ss_costOf h.2 h.1.1.2.1 ep e2).lx hx)))))
theorem sc_35 (h : PP4 M N) : Pc (mlc_35 a1 a2 a3 a4 a5 M N) (fun q => SS q.1 q.2) := by
  unfold mlc_35
  exact Pc.m (Pc.self _) (fun M3 r2 e1 => Pc.m (Pc.self _) (fun N6 r5 e2 => (Pc.k (fun _ => (Pc.ok (ss_orders h.2 h.1.1.2.1 e1 e2))))))
theorem sc_36 (h : PP4 M N) : Pc (mlc_36 a1 a2 a3 a4 a5 M N) (fun q => SS q.1 q.2) := by
  unfold mlc_36
  exact Pc.m (Pc.self _) (fun M3 r2 e1 => Pc.m (Pc.self _) (fun N6 r5 e2 => (Pc.k (fun _ => (Pc.ok (ss_leastCost h.2 h.1.1.2.1 e1 e2))))))
theorem sc_37 (h : PP4 M N) : Pc (mlc_37 a1 a2 a3 a4 a5 M N) (fun q => SS q.1 q.2) := by
  unfold mlc_37
  exact Pc.m (Pc.self _) (fun M3 r2 e1 => Pc.m (Pc.self _) (fun N6 r5 e2 => (Pc.k (fun _ => (Pc.ok (ss_plannedSteps h.2 h.1.1.2.1 e1 e2))))))
theorem sc_38 (h : PP4 M N) : Pc (mlc_38 a1 a2 a3 a4 a5 M N) (fun q => SS q.1 q.2) := by
  unfold mlc_38
  refine Pc.h hl_planned (fun M3 r2 p => ?_)
  obtain ⟨pp, ep, hx⟩ := p
  exact Pc.m (Pc.self _) (fun N6 r5 e2 => (Pc.k (fun _ => (Pc.ok ((ss_planned h.2 h.1.1.2.1 ep e2).lx hx)))))
theorem sc_39 (h : PP4 M N) : Pc (mlc_39 a1 a2 a3 a4 a5 M N) (fun q => SS q.1 q.2) := by
  unfold mlc_39
  exact Pc.m (Pc.self _) (fun M3 r2 e1 => Pc.m (Pc.self _) (fun N6 r5 e2 => (Pc.k (fun _ => (Pc.ok (ss_greatestCost h.2 h.1.1.2.1 e1 e2))))))
theorem sc_40 (h : PP4 M N) : Pc (mlc_40 a1 a2 a3 a4 a5 M N) (fun q => SS q.1 q.2) := by
  unfold mlc_40
  refine Pc.h hl_ordersWith (fun M3 r2 p => ?_)
  obtain ⟨pp, ep, hx⟩ := p
  exact Pc.m (Pc.self _) (fun N6 r5 e2 => (Pc.k (fun _ => (Pc.ok ((ss_ordersWith h.2 h.1.1.2.1 ep e2).lx hx)))))
theorem sc_41 (h : PP4 M N) : Pc (mlc_41 a1 a2 a3 a4 a5 M N) (fun q => SS q.1 q.2) := by
  unfold mlc_41
  exact Pc.m (Pc.self _) (fun M3 r2 e1 => Pc.m (Pc.self _) (fun N6 r5 e2 => (Pc.k (fun _ => (Pc.ok (ss_lastSteps h.2 h.1.1.2.1 e1 e2))))))
theorem sc_42 (h : PP4 M N) : Pc (mlc_42 a1 a2 a3 a4 a5 M N) (fun q => SS q.1 q.2) := by
  unfold mlc_42
  exact Pc.m (Pc.self _) (fun M3 r2 e1 => Pc.m (Pc.self _) (fun N6 r5 e2 => (Pc.k (fun _ => (Pc.ok (ss_mostBends h.2 h.1.1.2.1 e1 e2))))))
theorem sc_43 (h : PP4 M N) : Pc (mlc_43 a1 a2 a3 a4 a5 M N) (fun q => SS q.1 q.2) := by
  unfold mlc_43
  exact Pc.m (Pc.self _) (fun M3 r2 e1 => Pc.m (Pc.self _) (fun N6 r5 e2 => (Pc.k (fun _ => (Pc.ok (ss_greatestBeam h.2 h.1.1.2.1 e1 e2))))))
theorem sc_44 (h : PP4 M N) : Pc (mlc_44 a1 a2 a3 a4 a5 M N) (fun q => SS q.1 q.2) := by
  unfold mlc_44
  refine Pc.h hl_costIfTurned (fun M3 r2 p => ?_)
  obtain ⟨pp, ep, hx⟩ := p
  exact Pc.m (Pc.self _) (fun N6 r5 e2 => (Pc.k (fun _ => (Pc.ok ((ss_costIfTurned h.2 h.1.1.2.1 ep e2).lx hx)))))
theorem sc_45 (h : PP4 M N) : Pc (mlc_45 a1 a2 a3 a4 a5 M N) (fun q => SS q.1 q.2) := by
  unfold mlc_45
  refine Pc.h hl_fold (fun M3 r2 p => ?_)
  obtain ⟨pp, ep, hx⟩ := p
  exact Pc.m (Pc.self _) (fun N6 r5 e2 => (Pc.c (Pc.self _) (fun r8 _ => (Pc.i (fun _ => (Pc.i (fun _ => (Pc.k (fun _ => (Pc.i (fun _ => (Pc.k (fun _ => (Pc.ok ((ss_fold h.2 h.1.1.2.1 ep e2).lx hx))))) (fun _ => Pc.n))))) (fun _ => (Pc.k (fun _ => (Pc.ok ((ss_fold h.2 h.1.1.2.1 ep e2).lx hx))))))) (fun _ => Pc.n)))))
theorem sc_46 (h : PP4 M N) : Pc (mlc_46 a1 a2 a3 a4 a5 M N) (fun q => SS q.1 q.2) := by
  unfold mlc_46
  refine Pc.h hl_foldNext (fun M3 r2 p => ?_)
  obtain ⟨pp, ep, hx⟩ := p
  exact Pc.m (Pc.self _) (fun N6 r5 e2 => (Pc.k (fun _ => (Pc.ok ((ss_foldNext h.2 h.1.1.2.1 ep e2).lx hx)))))
theorem sc_47 (h : PP4 M N) : Pc (mlc_47 a1 a2 a3 a4 a5 M N) (fun q => SS q.1 q.2) := by
  unfold mlc_47
  exact Pc.m (Pc.self _) (fun M3 r2 e1 => Pc.m (Pc.self _) (fun N6 r5 e2 => (Pc.k (fun _ => (Pc.ok (ss_unfold h.2 h.1.1.2.1 e1 e2))))))
theorem sc_48 (h : PP4 M N) : Pc (mlc_48 a1 a2 a3 a4 a5 M N) (fun q => SS q.1 q.2) := by
  unfold mlc_48
  refine Pc.h hl_setLeg (fun M3 r2 p => ?_)
  obtain ⟨pp, ep, hx⟩ := p
  exact Pc.m (Pc.self _) (fun N6 r5 e2 => (Pc.k (fun _ => (Pc.ok ((ss_setLeg h.2 h.1.1.2.1 ep e2).lx hx)))))
theorem sc_49 (h : PP4 M N) : Pc (mlc_49 a1 a2 a3 a4 a5 M N) (fun q => SS q.1 q.2) := by
  unfold mlc_49
  refine Pc.i (fun c => ?_) (fun c => ?_)
  · refine Pc.h hl_setDirection (fun M4 r3 p => ?_)
    obtain ⟨pp, ep, hx⟩ := p
    exact Pc.i (fun _ => Pc.m (Pc.self _) (fun N6 r5 e2 => (Pc.k (fun _ => (Pc.ok ((ss_setDirection h.2 h.1.1.2.1 (Or.inl rfl) ep e2).lx hx)))))) (fun c2 => absurd c c2)
  · refine Pc.h hl_setDirection (fun M4 r3 p => ?_)
    obtain ⟨pp, ep, hx⟩ := p
    exact Pc.i (fun c2 => absurd c2 c) (fun _ => Pc.m (Pc.self _) (fun N6 r5 e2 => (Pc.k (fun _ => (Pc.ok ((ss_setDirection h.2 h.1.1.2.1 (Or.inr rfl) ep e2).lx hx))))))
theorem sc_50 (h : PP4 M N) : Pc (mlc_50 a1 a2 a3 a4 a5 M N) (fun q => SS q.1 q.2) := by
  unfold mlc_50
  refine Pc.h hl_setTool (fun M3 r2 p => ?_)
  obtain ⟨pp, ep, hx⟩ := p
  exact Pc.m (Pc.self _) (fun N6 r5 e2 => (Pc.k (fun _ => (Pc.ok ((ss_setTool h.2 h.1.1.2.1 ep e2).lx hx)))))
theorem sc_51 (h : PP4 M N) : Pc (mlc_51 a1 a2 a3 a4 a5 M N) (fun q => SS q.1 q.2) := by
  unfold mlc_51
  refine Pc.h hl_setSheet (fun M3 r2 p => ?_)
  obtain ⟨pp, ep, hx⟩ := p
  exact Pc.m (Pc.self _) (fun N6 r5 e2 => (Pc.k (fun _ => (Pc.ok ((ss_setSheet h.2 h.1.1.2.1 ep e2).lx hx)))))
theorem sc_52 (h : PP4 M N) : Pc (mlc_52 a1 a2 a3 a4 a5 M N) (fun q => SS q.1 q.2) := by
  unfold mlc_52
  refine Pc.h hl_setCost (fun M3 r2 p => ?_)
  obtain ⟨pp, ep, hx⟩ := p
  exact Pc.m (Pc.self _) (fun N6 r5 e2 => (Pc.k (fun _ => (Pc.ok ((ss_setCost h.2 h.1.1.2.1 ep e2).lx hx)))))
theorem sc_53 (h : PP4 M N) : Pc (mlc_53 a1 a2 a3 a4 a5 M N) (fun q => SS q.1 q.2) := by
  unfold mlc_53
  exact Pc.m (Pc.self _) (fun M3 r2 e1 => Pc.m (Pc.self _) (fun N6 r5 e2 => (Pc.k (fun _ => (Pc.ok (ss_undo h.2 h.1.1.2.1 e1 e2))))))
theorem sc_54 (h : PP4 M N) : Pc (mlc_54 a1 a2 a3 a4 a5 M N) (fun q => SS q.1 q.2) := by
  unfold mlc_54
  exact Pc.m (Pc.self _) (fun M3 r2 e1 => Pc.m (Pc.self _) (fun N6 r5 e2 => (Pc.ok (ss_write h.2 h.1.1.2.1 e1 e2))))
theorem sc_55 (h : PP4 M N) : Pc (mlc_55 a1 a2 a3 a4 a5 M N) (fun q => SS q.1 q.2) := by
  unfold mlc_55
  refine Pc.h hl_written (fun M3 r2 p => ?_)
  obtain ⟨pp, ep, hx⟩ := p
  exact Pc.m (Pc.self _) (fun N6 r5 e2 => (Pc.k (fun _ => (Pc.ok ((ss_written h.2 h.1.1.2.1 ep e2).lx hx)))))
theorem pcx_45 (h : PP4 M N) : Sf (mlc_45 a1 a2 a3 a4 a5 M N) (fun q => PP q.1 q.2) := by
  unfold mlc_45
  refine Sf.h (sL_fold h.1.1.1.m).se (fun M3 r2 p => ?_) (fun M e h => absurd h.1.2 List.not_mem_nil)
  have c := ck_of h.1.1.1 p.1.1
  obtain ⟨pp, ep, hx⟩ := hl_fold _ p.2
  refine Sf.m (sX7_fold h.1.1.2.1).se (fun N6 r5 p6 => ?_)
  have x := an_fold h.2 h.1.1.2.1 _ _ ep p6.2
  obtain ⟨ht, hv⟩ := hx.cmp x nz3
  show Sf (ite2 (rd N6 135 5 = r2) _ _) _
  refine Sf.i (fun _ => Sf.i (fun c0 => Sf.k (by decide) (Sf.i (fun _ => Sf.k (decide_eq_true c.2.1) (Sf.ok (pp1 h.1.1 c p6.1))) (fun n => absurd ?_ n))) (fun _ => Sf.k (decide_eq_true c.2.1) (Sf.ok (pp1 h.1.1 c p6.1)))) (fun n => absurd ht n)
  show lg_cmp (rl M3 152 0) r5.toInt64 = 0
  rw [hv c0]; exact lg_self
theorem pc_all {a0 : Int32} (h : PP4 M N) : Sf (mcase a0 a1 a2 a3 a4 a5 M N) (fun q => PP4 q.1 q.2) := by
  unfold mcase
  refine Sf.i (fun _ => pc4 (q3_0 h.1) (sc_0 h)) (fun _ => ?_)
  refine Sf.i (fun _ => pc4 (q3_1 h.1) (sc_1 h)) (fun _ => ?_)
  refine Sf.i (fun _ => pc4 (q3_2 h.1) (sc_2 h)) (fun _ => ?_)
  refine Sf.i (fun _ => pc4 (q3_3 h.1) (sc_3 h)) (fun _ => ?_)
  refine Sf.i (fun _ => pc4 (pc3 h.1 (pc_4 h.1.1) fc_4) (sc_4 h)) (fun _ => ?_)
  refine Sf.i (fun _ => pc4 (pc3 h.1 (pc_5 h.1.1) fc_5) (sc_5 h)) (fun _ => ?_)
  refine Sf.i (fun _ => pc4 (pc3 h.1 (pc_6 h.1.1) fc_6) (sc_6 h)) (fun _ => ?_)
  refine Sf.i (fun _ => pc4 (pc3 h.1 (pc_7 h.1.1) fc_7) (sc_7 h)) (fun _ => ?_)
  refine Sf.i (fun _ => pc4 (pc3 h.1 (pc_8 h.1.1) fc_8) (sc_8 h)) (fun _ => ?_)
  refine Sf.i (fun _ => pc4 (pc3 h.1 (pc_9 h.1.1) fc_9) (sc_9 h)) (fun _ => ?_)
  refine Sf.i (fun _ => pc4 (pc3 h.1 (pc_10 h.1.1) fc_10) (sc_10 h)) (fun _ => ?_)
  refine Sf.i (fun _ => pc4 (pc3 h.1 (pc_11 h.1.1) fc_11) (sc_11 h)) (fun _ => ?_)
  refine Sf.i (fun _ => pc4 (pc3 h.1 (pc_12 h.1.1) fc_12) (sc_12 h)) (fun _ => ?_)
  refine Sf.i (fun _ => pc4 (pc3 h.1 (pc_13 h.1.1) fc_13) (sc_13 h)) (fun _ => ?_)
  refine Sf.i (fun _ => pc4 (pc3 h.1 (pc_14 h.1.1) fc_14) (sc_14 h)) (fun _ => ?_)
  refine Sf.i (fun _ => pc4 (pc3 h.1 (pc_15 h.1.1) fc_15) (sc_15 h)) (fun _ => ?_)
  refine Sf.i (fun _ => pc4 (pc3 h.1 (pc_16 h.1.1) fc_16) (sc_16 h)) (fun _ => ?_)
  refine Sf.i (fun _ => pc4 (pc3 h.1 (pc_17 h.1.1) fc_17) (sc_17 h)) (fun _ => ?_)
  refine Sf.i (fun _ => pc4 (pc3 h.1 (pc_18 h.1.1) fc_18) (sc_18 h)) (fun _ => ?_)
  refine Sf.i (fun _ => pc4 (pc3 h.1 (pc_19 h.1.1) fc_19) (sc_19 h)) (fun _ => ?_)
  refine Sf.i (fun _ => pc4 (pc3 h.1 (pc_20 h.1.1) fc_20) (sc_20 h)) (fun _ => ?_)
  refine Sf.i (fun _ => pc4 (pc3 h.1 (pc_21 h.1.1) fc_21) (sc_21 h)) (fun _ => ?_)
  refine Sf.i (fun _ => pc4 (pc3 h.1 (pc_22 h.1.1) fc_22) (sc_22 h)) (fun _ => ?_)
  refine Sf.i (fun _ => pc4 (pc3 h.1 (pc_23 h.1.1) fc_23) (sc_23 h)) (fun _ => ?_)
  refine Sf.i (fun _ => pc4 (pc3 h.1 (pc_24 h.1.1) fc_24) (sc_24 h)) (fun _ => ?_)
  refine Sf.i (fun _ => pc4 (pc3 h.1 (pc_25 h.1.1) fc_25) (sc_25 h)) (fun _ => ?_)
  refine Sf.i (fun _ => pc4 (pc3 h.1 (pc_26 h.1.1) fc_26) (sc_26 h)) (fun _ => ?_)
  refine Sf.i (fun _ => pc4 (pc3 h.1 (pc_27 h.1.1) fc_27) (sc_27 h)) (fun _ => ?_)
  refine Sf.i (fun _ => pc4 (pc3 h.1 (pc_28 h.1.1) fc_28) (sc_28 h)) (fun _ => ?_)
  refine Sf.i (fun _ => pc4 (pc3 h.1 (pc_29 h.1.1) fc_29) (sc_29 h)) (fun _ => ?_)
  refine Sf.i (fun _ => pc4 (pc3 h.1 (pc_30 h.1.1) fc_30) (sc_30 h)) (fun _ => ?_)
  refine Sf.i (fun _ => pc4 (pc3 h.1 (pc_31 h.1.1) fc_31) (sc_31 h)) (fun _ => ?_)
  refine Sf.i (fun _ => pc4 (pc3 h.1 (pc_32 h.1.1) fc_32) (sc_32 h)) (fun _ => ?_)
  refine Sf.i (fun _ => pc4 (pc3 h.1 (pc_33 h.1.1) fc_33) (sc_33 h)) (fun _ => ?_)
  refine Sf.i (fun _ => pc4 (pc3 h.1 (pc_34 h.1.1) fc_34) (sc_34 h)) (fun _ => ?_)
  refine Sf.i (fun _ => pc4 (pc3 h.1 (pc_35 h.1.1) fc_35) (sc_35 h)) (fun _ => ?_)
  refine Sf.i (fun _ => pc4 (pc3 h.1 (pc_36 h.1.1) fc_36) (sc_36 h)) (fun _ => ?_)
  refine Sf.i (fun _ => pc4 (pc3 h.1 (pc_37 h.1.1) fc_37) (sc_37 h)) (fun _ => ?_)
  refine Sf.i (fun _ => pc4 (pc3 h.1 (pc_38 h.1.1) fc_38) (sc_38 h)) (fun _ => ?_)
  refine Sf.i (fun _ => pc4 (pc3 h.1 (pc_39 h.1.1) fc_39) (sc_39 h)) (fun _ => ?_)
  refine Sf.i (fun _ => pc4 (pc3 h.1 (pc_40 h.1.1) fc_40) (sc_40 h)) (fun _ => ?_)
  refine Sf.i (fun _ => pc4 (pc3 h.1 (pc_41 h.1.1) fc_41) (sc_41 h)) (fun _ => ?_)
  refine Sf.i (fun _ => pc4 (pc3 h.1 (pc_42 h.1.1) fc_42) (sc_42 h)) (fun _ => ?_)
  refine Sf.i (fun _ => pc4 (pc3 h.1 (pc_43 h.1.1) fc_43) (sc_43 h)) (fun _ => ?_)
  refine Sf.i (fun _ => pc4 (pc3 h.1 (pc_44 h.1.1) fc_44) (sc_44 h)) (fun _ => ?_)
  refine Sf.i (fun _ => pc4 (pc3 h.1 (pcx_45 h) fc_45) (sc_45 h)) (fun _ => ?_)
  refine Sf.i (fun _ => pc4 (pc3 h.1 (pc_46 h.1.1) fc_46) (sc_46 h)) (fun _ => ?_)
  refine Sf.i (fun _ => pc4 (pc3 h.1 (pc_47 h.1.1) fc_47) (sc_47 h)) (fun _ => ?_)
  refine Sf.i (fun _ => pc4 (pc3 h.1 (pc_48 h.1.1) fc_48) (sc_48 h)) (fun _ => ?_)
  refine Sf.i (fun _ => pc4 (pc3 h.1 (pc_49 h.1.1) fc_49) (sc_49 h)) (fun _ => ?_)
  refine Sf.i (fun _ => pc4 (pc3 h.1 (pc_50 h.1.1) fc_50) (sc_50 h)) (fun _ => ?_)
  refine Sf.i (fun _ => pc4 (pc3 h.1 (pc_51 h.1.1) fc_51) (sc_51 h)) (fun _ => ?_)
  refine Sf.i (fun _ => pc4 (pc3 h.1 (pc_52 h.1.1) fc_52) (sc_52 h)) (fun _ => ?_)
  refine Sf.i (fun _ => pc4 (pc3 h.1 (pc_53 h.1.1) fc_53) (sc_53 h)) (fun _ => ?_)
  refine Sf.i (fun _ => pc4 (pc3 h.1 (pc_54 h.1.1) fc_54) (sc_54 h)) (fun _ => ?_)
  refine Sf.i (fun _ => pc4 (pc3 h.1 (pc_55 h.1.1) fc_55) (sc_55 h)) (fun _ => ?_)
  exact Sf.ok h
theorem all_case : ∀ (a0 a1 a2 a3 a4 a5 : Int32) (M N : Mem), PP4 M N → ∃ M' N', mcase a0 a1 a2 a3 a4 a5 M N = some (M', N') ∧ PP4 M' N' := by
  intro a0 a1 a2 a3 a4 a5 M N h
  obtain ⟨⟨M', N'⟩, e, hp⟩ := pc_all (a0 := a0) (a1 := a1) (a2 := a2) (a3 := a3) (a4 := a4) (a5 := a5) h
  exact ⟨M', N', e, hp⟩
end CP
