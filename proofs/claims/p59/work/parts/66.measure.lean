/-! gauge, top, hits, reason of a step when nothing is made -/
section MSx
variable {M : Mem} {L : List Nat} {b s : Nat}
theorem gm_b (h : Ln L) (hb : b + 1 < L.length) (lo : Bool) {j : Nat} (hj : j ≤ L.length) : gm L b lo j ≤ 4200 := by
  have h2 := ps_b h (b + 1) (by omega)
  have h3 := ps_b h j hj
  have h4 := h.1
  unfold gm
  split <;> split <;> omega
theorem cb_lo {j : Nat} : cb b s j = true ↔ ((decide (s = 0) = true ∧ j ≤ b) ∨ (decide (s = 0) = false ∧ b < j)) := by
  unfold cb
  by_cases e : s = 0
  · simp [e]
  · simp [e]
theorem mx_of {x y : Nat} {v : Int32} (hx : x < 10000) (hy : y < 10000) (hv : v.toInt = (y : Int)) : imax (Int32.ofNat x) v = Int32.ofNat (max x y) := by
  rw [i_eq, imax_t, t_of (by omega), hv, t_of (by omega)]
  omega
theorem rch_l (h : Ln L) (hb : b + 1 < L.length) (hL : LAY L b s M) : ∀ (n j : Nat), j ≤ L.length → Pc (mX2_reachToBack_l4 103 M n (Int32.ofNat (gm L b (decide (s = 0)) j)) (Int32.ofNat j)) (fun r => r = Int32.ofNat (gm L b (decide (s = 0)) L.length)) := by
  intro n
  induction n with
  | zero => intro j _; exact Pc.n
  | succ n IH =>
    intro j hj
    have h6 := h.1
    show Pc (mX2_reachToBack_b4 103 M (mX2_reachToBack_l4 103 M n) (Int32.ofNat (gm L b (decide (s = 0)) j)) (Int32.ofNat j)) _
    unfold mX2_reachToBack_b4
    rw [hL.2.1]
    refine Pc.i (fun c => Pc.ok ?_) (fun c => ?_)
    · have c := i_le.mp c
      rw [t_of (by omega), t_of (by omega)] at c
      rw [show j = L.length by omega]
    have c := i_nle c
    rw [t_of (by omega), t_of (by omega)] at c
    have hj : j < L.length := by omega
    have e1 : Int32.ofNat j + (1 : Int32) = Int32.ofNat (j + 1) := o_add (b := 1) (by omega)
    refine Pc.i (fun c9 => ?_) (fun _ => Pc.c (pc_cl hL hb h6 hj) (fun r hr => ?_))
    · have := i_le.mp c9
      rw [t_of (by omega), show ((9 : Int32)).toInt = 9 from rfl] at this
      omega
    subst hr
    have hg := gm_s (L := L) hj hb (decide (s = 0))
    have hq := hL.1 j hj
    cases hc : cb b s j with
    | true =>
      rw [if_pos (cb_lo.mp hc)] at hg
      refine Pc.i (fun z => absurd z (by decide)) (fun _ => Pc.k (fun _ => Pc.b (fun x ex => ?_)))
      have hv : (-(rd M (103 + 1) (Int32.ofNat j).toNatClampNeg)).toInt = (fa L b j : Int) := by
        rw [c_of (by omega)]
        have h1 : (rd M 104 j).toInt = -(fa L b j : Int) := by have := hq.1; rw [hc] at this; exact this
        have := fa_b h hj hb
        rw [i_neg (by show _ ≤ (rd M 104 j).toInt; rw [h1]; omega)]
        show -(rd M 104 j).toInt = _
        rw [h1]; omega
      rw [mx_of (by have := gm_b h hb (decide (s = 0)) (j := j) (by omega); omega) (by have := fa_b h hj hb; omega) hv, ← hg] at ex
      subst ex
      unfold mX2_reachToBack_b38
      refine Pc.b (fun y ey => ?_)
      rw [ey, e1]
      exact IH (j + 1) (by omega)
    | false =>
      rw [if_neg (fun z => by rw [cb_lo.mpr z] at hc; cases hc)] at hg
      refine Pc.i (fun _ => ?_) (fun z => absurd rfl z)
      unfold mX2_reachToBack_b38
      refine Pc.b (fun y ey => ?_)
      rw [ey, e1, ← hg]
      exact IH (j + 1) (by omega)
theorem pc_reach (h : Ln L) (hb : b + 1 < L.length) (hL : LAY L b s M) : Pc (mX2_reachToBack 103 M) (fun r => r = Int32.ofNat (bkR L b s)) := by
  unfold mX2_reachToBack
  have e0 : gm L b (decide (s = 0)) 0 = 0 := by unfold gm; split <;> rfl
  have r := rch_l h hb hL 5000 0 (by omega)
  rw [e0] at r
  have ee : gm L b (decide (s = 0)) L.length = bkR L b s := by
    unfold gm bkR
    by_cases e : s = 0
    · rw [decide_eq_true e, if_pos rfl, if_pos e, if_neg (by omega)]
    · rw [decide_eq_false e, if_neg (by decide), if_neg e, if_neg (by omega)]
  rw [ee] at r
  exact r
theorem top_l (h : Ln L) (hb : b + 1 < L.length) (hL : LAY L b s M) : ∀ (n j : Nat), j ≤ L.length → Pc (mX2_topOfFreeSide_l4 103 M n (Int32.ofNat (gm L b (!decide (s = 0)) j)) (Int32.ofNat j)) (fun r => r = Int32.ofNat (gm L b (!decide (s = 0)) L.length)) := by
  intro n
  induction n with
  | zero => intro j _; exact Pc.n
  | succ n IH =>
    intro j hj
    have h6 := h.1
    show Pc (mX2_topOfFreeSide_b4 103 M (mX2_topOfFreeSide_l4 103 M n) (Int32.ofNat (gm L b (!decide (s = 0)) j)) (Int32.ofNat j)) _
    unfold mX2_topOfFreeSide_b4
    rw [hL.2.1]
    refine Pc.i (fun c => Pc.ok ?_) (fun c => ?_)
    · have c := i_le.mp c
      rw [t_of (by omega), t_of (by omega)] at c
      rw [show j = L.length by omega]
    have c := i_nle c
    rw [t_of (by omega), t_of (by omega)] at c
    have hj : j < L.length := by omega
    have e1 : Int32.ofNat j + (1 : Int32) = Int32.ofNat (j + 1) := o_add (b := 1) (by omega)
    refine Pc.i (fun c9 => ?_) (fun _ => Pc.c (pc_cl hL hb h6 hj) (fun r hr => ?_))
    · have := i_le.mp c9
      rw [t_of (by omega), show ((9 : Int32)).toInt = 9 from rfl] at this
      omega
    subst hr
    have hg := gm_s (L := L) hj hb (!decide (s = 0))
    have hq := hL.1 j hj
    have hcn : cb b s j = false ↔ (((!decide (s = 0)) = true ∧ j ≤ b) ∨ ((!decide (s = 0)) = false ∧ b < j)) := by
      unfold cb
      by_cases e : s = 0
      · simp [e]
      · simp [e]
    cases hc : cb b s j with
    | true =>
      rw [if_neg (fun z => by rw [hcn.mpr z] at hc; cases hc)] at hg
      refine Pc.i (fun z => absurd z (by decide)) (fun _ => ?_)
      unfold mX2_topOfFreeSide_b37
      refine Pc.b (fun y ey => ?_)
      rw [ey, e1, ← hg]
      exact IH (j + 1) (by omega)
    | false =>
      rw [if_pos (hcn.mp hc)] at hg
      refine Pc.i (fun _ => Pc.k (fun _ => Pc.b (fun x ex => ?_))) (fun z => absurd rfl z)
      have hv : (rd M (103 + 2) (Int32.ofNat j).toNatClampNeg).toInt = (fa L b j : Int) := by
        rw [c_of (by omega)]
        have := hq.2.1
        rw [hc] at this
        exact this
      rw [mx_of (by have := gm_b h hb (!decide (s = 0)) (j := j) (by omega); omega) (by have := fa_b h hj hb; omega) hv, ← hg] at ex
      subst ex
      unfold mX2_topOfFreeSide_b37
      refine Pc.b (fun y ey => ?_)
      rw [ey, e1]
      exact IH (j + 1) (by omega)
theorem pc_topS (h : Ln L) (hb : b + 1 < L.length) (hL : LAY L b s M) : Pc (mX2_topOfFreeSide 103 M) (fun r => r = Int32.ofNat (upR L b s)) := by
  unfold mX2_topOfFreeSide
  have e0 : gm L b (!decide (s = 0)) 0 = 0 := by unfold gm; split <;> rfl
  have r := top_l h hb hL 5000 0 (by omega)
  rw [e0] at r
  have ee : gm L b (!decide (s = 0)) L.length = upR L b s := by
    unfold gm upR
    by_cases e : s = 0
    · rw [decide_eq_true e, if_neg (by decide), if_pos e, if_neg (by omega)]
    · rw [decide_eq_false e, if_pos (by decide), if_neg e, if_neg (by omega)]
  rw [ee] at r
  exact r
/-- a memory of its own for where the legs lie -/
def gl (M : Mem) : Mem := (fun a j => if a = 136 then (if j = 1 then rd M 103 6 else rd M 7 (j - 39)) else if a = 141 then rd M 107 j else if a = 142 then rd M 108 j else if a = 143 then rd M 104 j else if a = 144 then rd M 105 j else 0, M.2)
theorem gl_SH (h : Ln L) (hb : b + 1 < L.length) (hL : LAY L b s M) : SH 103 b s M (gl M) := by
  have h6 := h.1
  have el : (rd (gl M) 136 1).toInt = (L.length : Int) := by show (rd M 103 6).toInt = _; rw [hL.2.1, t_of (by omega)]
  refine ⟨fun j hj => ?_, rfl, hL.2.2.1, by rw [hL.2.2.2, el]⟩
  rw [el] at hj
  have hj : j < L.length := by omega
  obtain ⟨q1, q2, q3, q4, q5, q6⟩ := hL.1 j hj
  have hfn := fa_nr hj hb
  refine ⟨rfl, rfl, ?_, ?_, ?_, ?_⟩
  · show rd M 106 j = imin (rd M 107 j) (rd M 104 j)
    rw [i_eq, imin_t, q1, q3, q4]
    split <;> omega
  · show rd M 107 j = imax (rd M 107 j) (rd M 104 j)
    rw [i_eq, imax_t, q1, q4]
    split <;> omega
  · show rd M 108 j = imin (rd M 108 j) (rd M 105 j)
    rw [i_eq, imin_t, q2, q5]
    split <;> omega
  · show rd M 109 j = imax (rd M 108 j) (rd M 105 j)
    rw [i_eq, imax_t, q2, q5, q6]
    split <;> omega
theorem no_CB (hL : LAY L b s M) {j : Nat} (hj : j < L.length) : ¬ CB (gl M) b s j := by
  obtain ⟨q1, q2, q3, q4, q5, q6⟩ := hL.1 j hj
  have a1 : (rd (gl M) 141 j).toInt = _ := q4
  have a2 : (rd (gl M) 142 j).toInt = _ := q5
  have a3 : (rd (gl M) 143 j).toInt = _ := q1
  have a4 : (rd (gl M) 144 j).toInt = _ := q2
  have z0 : ((0 : Int32)).toInt = 0 := rfl
  unfold CB HB HW Ent
  rw [a1, a2, a3, a4, z0]
  cases hc : cb b s j with
  | true =>
    simp only [if_true]
    have hm := cb_m.mp hc
    intro q
    rcases q with (q | q) | ⟨q, -⟩
    · omega
    · omega
    · exact q hm
  | false =>
    simp only [Bool.false_eq_true, if_false]
    intro q
    rcases q with (q | q) | ⟨-, q⟩
    · omega
    · omega
    · omega
theorem pc_hits0 (h : Ln L) (hb : b + 1 < L.length) (hL : LAY L b s M) : Pc (mX2_legsHitting 103 5 M) (fun r => r = 0) := by
  have h6 := h.1
  have el : (rd (gl M) 136 1).toInt = (L.length : Int) := by show (rd M 103 6).toInt = _; rw [hL.2.1, t_of (by omega)]
  refine (pc_hitC (k := 103) (k1 := 5) (N := gl M) (gl_SH h hb hL) (by rw [el]; omega) (by rw [el]; omega) (fun j hj => ?_)).mono (fun r hr => ?_)
  · show rd M 7 j = (if 39 + j = 1 then rd M 103 6 else rd M 7 (39 + j - 39))
    rw [if_neg (by omega), show 39 + j - 39 = j by omega]
  · obtain ⟨m, rfl, hm, hbits⟩ := hr
    rw [el] at hm hbits
    have e0 : m = 0 := by
      apply Nat.eq_of_testBit_eq
      intro i
      rw [Nat.zero_testBit]
      by_cases hi : i < L.length
      · cases ht : m.testBit i with
        | false => rfl
        | true => exact absurd ((hbits i (by omega)).mp ht) (no_CB hL hi)
      · exact Nat.testBit_lt_two_pow (Nat.lt_of_lt_of_le hm (Nat.pow_le_pow_right (by decide) (by omega)))
    rw [e0]; rfl
theorem no_Tch (h : Ln L) (hb : b + 1 < L.length) (hL : LAY L b s M) {i j : Nat} (hij : i + 2 ≤ j) (hj : j < L.length) : ¬ Tch (gl M) i j := by
  obtain ⟨q1, q2, q3, q4, q5, q6⟩ := hL.1 i (by omega)
  obtain ⟨p1, p2, p3, p4, p5, p6⟩ := hL.1 j hj
  have hi1 := ps_s (L := L) (i := i) (by omega)
  have hi2 := ps_s (L := L) (i := i + 1) (by omega)
  have hj1 := ps_s (L := L) (i := j) hj
  have vi := h.at (j := i) (by omega)
  have vi1 := h.at (j := i + 1) (by omega)
  have vj := h.at (j := j) hj
  have hb1 := ps_s (L := L) (i := b) (by omega)
  have vb := h.at (j := b) (by omega)
  have hb2 := ps_s (L := L) (i := b + 1) hb
  have vb2 := h.at (j := b + 1) hb
  have m1 := ps_mono (L := L) (i := i + 2) (j := j) (by omega) (by omega)
  unfold Tch
  rw [show (rd (gl M) 141 i).toInt = _ from q4, show (rd (gl M) 142 i).toInt = _ from q5, show (rd (gl M) 143 i).toInt = _ from q1, show (rd (gl M) 144 i).toInt = _ from q2, show (rd (gl M) 141 j).toInt = _ from p4, show (rd (gl M) 142 j).toInt = _ from p5, show (rd (gl M) 143 j).toInt = _ from p1, show (rd (gl M) 144 j).toInt = _ from p2]
  have fi := fa_nr (L := L) (b := b) (j := i) (by omega) hb
  have fj := fa_nr (L := L) (b := b) (j := j) hj hb
  rcases Nat.lt_or_ge b i with c1 | c1
  · -- both behind the bend
    have ei : fa L b i = ps L (i + 1) - ps L (b + 1) := by unfold fa; rw [if_neg (by omega)]
    have ej : nr L b j = ps L j - ps L (b + 1) := by unfold nr; rw [if_neg (by omega)]
    have mi := ps_mono (L := L) (i := b + 1) (j := i) (by omega) (by omega)
    have e9 : ps L (i + 1 + 1) = ps L (i + 2) := rfl
    have cc : cb b s i = cb b s j := by
      unfold cb
      split
      · rw [decide_eq_false (by omega), decide_eq_false (by omega)]
      · rw [decide_eq_true (by omega), decide_eq_true (by omega)]
    rw [cc]
    cases cb b s j <;> simp only [if_true, Bool.false_eq_true, if_false] <;> omega
  · rcases Nat.lt_or_ge b j with c2 | c2
    · have ei : nr L b i = ps L (b + 1) - ps L (i + 1) := by unfold nr; rw [if_pos c1]
      have ej : nr L b j = ps L j - ps L (b + 1) := by unfold nr; rw [if_neg (by omega)]
      have mi := ps_mono (L := L) (i := i + 1) (j := b + 1) (by omega) (by omega)
      have mj := ps_mono (L := L) (i := b + 1) (j := j) (by omega) (by omega)
      have far : 0 < nr L b i ∨ 0 < nr L b j := by
        by_cases e : i = b
        · right
          have := ps_mono (L := L) (i := b + 2) (j := j) (by omega) (by omega)
          have e9 : ps L (b + 1 + 1) = ps L (b + 2) := rfl
          omega
        · left
          have := ps_mono (L := L) (i := i + 2) (j := b + 1) (by omega) (by omega)
          have e9 : ps L (i + 1 + 1) = ps L (i + 2) := rfl
          omega
      have cc : cb b s i = !cb b s j := by
        unfold cb
        split
        · rw [decide_eq_true (by omega), decide_eq_false (by omega)]; rfl
        · rw [decide_eq_false (by omega), decide_eq_true (by omega)]; rfl
      rw [cc]
      cases cb b s j <;> simp only [Bool.not_true, Bool.not_false, if_true, Bool.false_eq_true, if_false] <;> omega
    · have ei : nr L b i = ps L (b + 1) - ps L (i + 1) := by unfold nr; rw [if_pos (by omega)]
      have ej : fa L b j = ps L (b + 1) - ps L j := by unfold fa; rw [if_pos c2]
      have mj := ps_mono (L := L) (i := j) (j := b + 1) (by omega) (by omega)
      have e9 : ps L (i + 1 + 1) = ps L (i + 2) := rfl
      have cc : cb b s i = cb b s j := by
        unfold cb
        split
        · rw [decide_eq_true (by omega), decide_eq_true (by omega)]
        · rw [decide_eq_false (by omega), decide_eq_false (by omega)]
      rw [cc]
      cases cb b s j <;> simp only [if_true, Bool.false_eq_true, if_false] <;> omega
theorem pc_crs0 (h : Ln L) (hb : b + 1 < L.length) (hL : LAY L b s M) : Pc (mX2_crossesItself 103 M) (fun r => r = 0) := by
  have h6 := h.1
  have hS := gl_SH h hb hL
  have el : (rd (gl M) 136 1).toInt = (L.length : Int) := by show (rd M 103 6).toInt = _; rw [hL.2.1, t_of (by omega)]
  refine (pc_crsC (k := 103) (N := gl M) hS.1 rfl (by rw [el]; omega) (by rw [el]; omega)).mono (fun r hr => ?_)
  rcases hr with ⟨_, i, j, hij, hj, ht⟩ | ⟨q, _⟩
  · rw [el] at hj
    exact absurd ht (no_Tch h hb hL hij (by omega))
  · exact q
end MSx
