/-! where the legs lie in a step when nothing is made -/
section STp
variable {M : Mem} {L : List Nat} {b s : Nat}
/-- how long the first legs are -/
def ps (L : List Nat) (i : Nat) : Nat := (L.take i).sum
theorem ps_0 : ps L 0 = 0 := rfl
theorem ps_s {i : Nat} (h : i < L.length) : ps L (i + 1) = ps L i + L.getD i 0 := by
  unfold ps
  rw [List.take_succ, List.getElem?_eq_getElem h, List.sum_append, List.getD_eq_getElem?_getD, List.getElem?_eq_getElem h]
  simp
theorem ps_mono {i j : Nat} (h : i ≤ j) (hj : j ≤ L.length) : ps L i ≤ ps L j := by
  induction j with
  | zero => have : i = 0 := by omega
            subst this; exact Nat.le_refl _
  | succ j IH =>
    by_cases e : i = j + 1
    · rw [e]; exact Nat.le_refl _
    · have := IH (by omega) (by omega)
      have := ps_s (L := L) (i := j) (by omega)
      omega
/-- lengths of a profile -/
def Ln (L : List Nat) : Prop := L.length ≤ 6 ∧ ∀ v ∈ L, 100 ≤ v ∧ v < 700
theorem Ln.at {j : Nat} (h : Ln L) (hj : j < L.length) : 100 ≤ L.getD j 0 ∧ L.getD j 0 < 700 := h.2 _ (by rw [List.getD_eq_getElem?_getD, List.getElem?_eq_getElem hj]; exact List.getElem_mem hj)
theorem ps_b (h : Ln L) : ∀ i, i ≤ L.length → ps L i ≤ 700 * i := by
  intro i
  induction i with
  | zero => intro _; exact Nat.le_refl _
  | succ i IH =>
    intro hi
    have := IH (by omega)
    have := ps_s (L := L) (i := i) (by omega)
    have := h.at (j := i) (by omega)
    omega
/-- a difference of lengths -/
def df (x y : Nat) : Int32 := Int32.ofNat x - Int32.ofNat y
theorem df_t {x y : Nat} (hx : x < 10000) (hy : y < 10000) : (df x y).toInt = (x : Int) - y := by
  unfold df
  rw [i_sub (by rw [t_of (by omega), t_of (by omega)]; omega) (by rw [t_of (by omega), t_of (by omega)]; omega), t_of (by omega), t_of (by omega)]
/-- from where a leg goes along its side, and to where -/
def nr (L : List Nat) (b j : Nat) : Nat := if j ≤ b then ps L (b + 1) - ps L (j + 1) else ps L j - ps L (b + 1)
def fa (L : List Nat) (b j : Nat) : Nat := if j ≤ b then ps L (b + 1) - ps L j else ps L (j + 1) - ps L (b + 1)
theorem fa_nr {j : Nat} (hj : j < L.length) (hb : b + 1 < L.length) : fa L b j = nr L b j + L.getD j 0 := by
  have h1 := ps_s (L := L) (i := j) hj
  unfold fa nr
  split
  · have := ps_mono (L := L) (i := j + 1) (j := b + 1) (by omega) (by omega)
    omega
  · have := ps_mono (L := L) (i := b + 1) (j := j) (by omega) (by omega)
    omega
theorem fa_b (h : Ln L) {j : Nat} (hj : j < L.length) (hb : b + 1 < L.length) : fa L b j ≤ 4200 ∧ nr L b j ≤ 4200 := by
  have h1 := ps_b h (b + 1) (by omega)
  have h2 := ps_b h (j + 1) (by omega)
  have h3 := ps_b h j (by omega)
  have h4 := h.1
  unfold fa nr
  split <;> omega
/-- whether a leg is clamped -/
def cb (b s j : Nat) : Bool := if s = 0 then decide (j ≤ b) else decide (b < j)
theorem cb_m {j : Nat} : cb b s j = true ↔ clm b s j := by
  unfold cb clm
  split <;> exact decide_eq_true_iff
/-- the walk of a side: lo, the legs up to the bend; bk, to the back -/
def WX (L : List Nat) (b : Nat) (lo bk : Bool) (j : Nat) : Int32 := if bk then (if lo then df (ps L (j + 1)) (ps L (b + 1)) else df (ps L (b + 1)) (ps L j)) else 0
def WY (L : List Nat) (b : Nat) (lo bk : Bool) (j : Nat) : Int32 := if bk then 0 else (if lo then df (ps L (b + 1)) (ps L (j + 1)) else df (ps L j) (ps L (b + 1)))
def WD (bk : Bool) : Nat := if bk then 3 else 0
theorem turn_0 {up : Nat → Bool} {n t d : Nat} {z : Int} : turnS up 0 n t d z = d := by
  unfold turnS
  rw [if_neg (fun h => by have := h.2.2; rw [Nat.zero_testBit] at this; exact absurd this (by decide))]
theorem goX_3 {v : Int32} : goX (Int32.ofNat 3) v = -v ∧ goY (Int32.ofNat 3) v = 0 ∧ goX (Int32.ofNat 0) v = 0 ∧ goY (Int32.ofNat 0) v = v := ⟨rfl, rfl, rfl, rfl⟩
theorem neg_of {v : Nat} (h : v < 10000) : (-(Int32.ofNat v)).toInt = -(v : Int) := by
  rw [i_neg (by rw [t_of (by omega)]; omega), t_of (by omega)]
/-- the far end by the near one -/
theorem W_to (h : Ln L) {j : Nat} (hj : j < L.length) (hb : b + 1 < L.length) (lo bk : Bool) (hlo : lo = true ∧ j ≤ b ∨ lo = false ∧ b < j) : (WX L b lo bk j + goX (Int32.ofNat (WD bk)) (Int32.ofNat (L.getD j 0))).toInt = (if bk then -(fa L b j : Int) else 0) ∧ (WY L b lo bk j + goY (Int32.ofNat (WD bk)) (Int32.ofNat (L.getD j 0))).toInt = (if bk then 0 else (fa L b j : Int)) ∧ (WX L b lo bk j).toInt = (if bk then -(nr L b j : Int) else 0) ∧ (WY L b lo bk j).toInt = (if bk then 0 else (nr L b j : Int)) := by
  have hv := h.at hj
  have h1 := ps_s (L := L) (i := j) hj
  have h2 := ps_b h (b + 1) (by omega)
  have h3 := ps_b h (j + 1) (by omega)
  have h4 := h.1
  have tv : (Int32.ofNat (L.getD j 0)).toInt = (L.getD j 0 : Int) := t_of (by omega)
  have nv := neg_of (v := L.getD j 0) (by omega)
  obtain ⟨g1, g2, g3, g4⟩ := goX_3 (v := Int32.ofNat (L.getD j 0))
  have d1 := df_t (x := ps L (j + 1)) (y := ps L (b + 1)) (by omega) (by omega)
  have d2 := df_t (x := ps L (b + 1)) (y := ps L (j + 1)) (by omega) (by omega)
  have d3 := df_t (x := ps L (b + 1)) (y := ps L j) (by omega) (by omega)
  have d4 := df_t (x := ps L j) (y := ps L (b + 1)) (by omega) (by omega)
  have z0 : ((0 : Int32)).toInt = 0 := rfl
  have zz : ((0 : Int32) + 0).toInt = 0 := rfl
  rcases hlo with ⟨rfl, hl⟩ | ⟨rfl, hl⟩
  · have m := ps_mono (L := L) (i := j + 1) (j := b + 1) (by omega) (by omega)
    have ef : fa L b j = ps L (b + 1) - ps L j := by unfold fa; rw [if_pos hl]
    have en : nr L b j = ps L (b + 1) - ps L (j + 1) := by unfold nr; rw [if_pos hl]
    cases bk with
    | true =>
      show (df (ps L (j + 1)) (ps L (b + 1)) + goX (Int32.ofNat 3) (Int32.ofNat (L.getD j 0))).toInt = -(fa L b j : Int) ∧ ((0 : Int32) + goY (Int32.ofNat 3) (Int32.ofNat (L.getD j 0))).toInt = 0 ∧ (df (ps L (j + 1)) (ps L (b + 1))).toInt = -(nr L b j : Int) ∧ ((0 : Int32)).toInt = 0
      rw [g1, g2, i_add (by rw [d1, nv]; omega) (by rw [d1, nv]; omega), d1, nv, ef, en]
      exact ⟨by omega, rfl, by omega, rfl⟩
    | false =>
      show ((0 : Int32) + goX (Int32.ofNat 0) (Int32.ofNat (L.getD j 0))).toInt = 0 ∧ (df (ps L (b + 1)) (ps L (j + 1)) + goY (Int32.ofNat 0) (Int32.ofNat (L.getD j 0))).toInt = (fa L b j : Int) ∧ ((0 : Int32)).toInt = 0 ∧ (df (ps L (b + 1)) (ps L (j + 1))).toInt = (nr L b j : Int)
      rw [g3, g4, i_add (a := df (ps L (b + 1)) (ps L (j + 1))) (b := Int32.ofNat (L.getD j 0)) (by rw [d2, tv]; omega) (by rw [d2, tv]; omega), d2, tv, ef, en]
      exact ⟨rfl, by omega, rfl, by omega⟩
  · have m := ps_mono (L := L) (i := b + 1) (j := j) (by omega) (by omega)
    have ef : fa L b j = ps L (j + 1) - ps L (b + 1) := by unfold fa; rw [if_neg (by omega)]
    have en : nr L b j = ps L j - ps L (b + 1) := by unfold nr; rw [if_neg (by omega)]
    cases bk with
    | true =>
      show (df (ps L (b + 1)) (ps L j) + goX (Int32.ofNat 3) (Int32.ofNat (L.getD j 0))).toInt = -(fa L b j : Int) ∧ ((0 : Int32) + goY (Int32.ofNat 3) (Int32.ofNat (L.getD j 0))).toInt = 0 ∧ (df (ps L (b + 1)) (ps L j)).toInt = -(nr L b j : Int) ∧ ((0 : Int32)).toInt = 0
      rw [g1, g2, i_add (by rw [d3, nv]; omega) (by rw [d3, nv]; omega), d3, nv, ef, en]
      exact ⟨by omega, rfl, by omega, rfl⟩
    | false =>
      show ((0 : Int32) + goX (Int32.ofNat 0) (Int32.ofNat (L.getD j 0))).toInt = 0 ∧ (df (ps L j) (ps L (b + 1)) + goY (Int32.ofNat 0) (Int32.ofNat (L.getD j 0))).toInt = (fa L b j : Int) ∧ ((0 : Int32)).toInt = 0 ∧ (df (ps L j) (ps L (b + 1))).toInt = (nr L b j : Int)
      rw [g3, g4, i_add (a := df (ps L j) (ps L (b + 1))) (b := Int32.ofNat (L.getD j 0)) (by rw [d4, tv]; omega) (by rw [d4, tv]; omega), d4, tv, ef, en]
      exact ⟨rfl, by omega, rfl, by omega⟩
theorem W_fit (h : Ln L) (hb : b + 1 < L.length) {up : Nat → Bool} {n t : Nat} (lo bk : Bool) : Fit (if lo then -1 else 1) L.length (WX L b lo bk) (WY L b lo bk) (fun _ => WD bk) (fun j => Int32.ofNat (L.getD j 0)) up 0 n t := by
  intro j j' e hj hj'
  refine ⟨?_, ?_, turn_0.symm⟩
  all_goals
    have hv := h.at hj
    have h1 := ps_s (L := L) (i := j) hj
    have h1' := ps_s (L := L) (i := j') hj'
    have h2 := ps_b h (b + 1) (by omega)
    have h3 := ps_b h (j + 1) (by omega)
    have h3' := ps_b h (j' + 1) (by omega)
    have h4 := h.1
    have tv : (Int32.ofNat (L.getD j 0)).toInt = (L.getD j 0 : Int) := t_of (by omega)
    have nv := neg_of (v := L.getD j 0) (by omega)
    obtain ⟨g1, g2, g3, g4⟩ := goX_3 (v := Int32.ofNat (L.getD j 0))
    have d1 := df_t (x := ps L (j + 1)) (y := ps L (b + 1)) (by omega) (by omega)
    have d2 := df_t (x := ps L (b + 1)) (y := ps L (j + 1)) (by omega) (by omega)
    have d3 := df_t (x := ps L (b + 1)) (y := ps L j) (by omega) (by omega)
    have d4 := df_t (x := ps L j) (y := ps L (b + 1)) (by omega) (by omega)
    have d1' := df_t (x := ps L (j' + 1)) (y := ps L (b + 1)) (by omega) (by omega)
    have d2' := df_t (x := ps L (b + 1)) (y := ps L (j' + 1)) (by omega) (by omega)
    have d3' := df_t (x := ps L (b + 1)) (y := ps L j') (by omega) (by omega)
    have d4' := df_t (x := ps L j') (y := ps L (b + 1)) (by omega) (by omega)
  · cases lo with
    | true =>
      have e : j = j' + 1 := by rw [if_pos rfl] at e; omega
      cases bk with
      | true =>
        show df (ps L (j' + 1)) (ps L (b + 1)) = df (ps L (j + 1)) (ps L (b + 1)) + goX (Int32.ofNat 3) (Int32.ofNat (L.getD j 0))
        rw [g1, i_eq, i_add (by rw [d1, nv]; omega) (by rw [d1, nv]; omega), d1, nv, d1', ← e]; omega
      | false => rfl
    | false =>
      have e : j' = j + 1 := by rw [if_neg (by decide)] at e; omega
      cases bk with
      | true =>
        show df (ps L (b + 1)) (ps L j') = df (ps L (b + 1)) (ps L j) + goX (Int32.ofNat 3) (Int32.ofNat (L.getD j 0))
        rw [g1, i_eq, i_add (by rw [d3, nv]; omega) (by rw [d3, nv]; omega), d3, nv, d3', e]; omega
      | false => rfl
  · cases lo with
    | true =>
      have e : j = j' + 1 := by rw [if_pos rfl] at e; omega
      cases bk with
      | true => rfl
      | false =>
        show df (ps L (b + 1)) (ps L (j' + 1)) = df (ps L (b + 1)) (ps L (j + 1)) + goY (Int32.ofNat 0) (Int32.ofNat (L.getD j 0))
        rw [g4, i_eq, i_add (by rw [d2, tv]; omega) (by rw [d2, tv]; omega), d2, tv, d2', ← e]; omega
    | false =>
      have e : j' = j + 1 := by rw [if_neg (by decide)] at e; omega
      cases bk with
      | true => rfl
      | false =>
        show df (ps L j') (ps L (b + 1)) = df (ps L j) (ps L (b + 1)) + goY (Int32.ofNat 0) (Int32.ofNat (L.getD j 0))
        rw [g4, i_eq, i_add (by rw [d4, tv]; omega) (by rw [d4, tv]; omega), d4, tv, d4', e]; omega
/-- how a leg lies -/
def LY (L : List Nat) (b s : Nat) (M : Mem) (j : Nat) : Prop := (rd M 104 j).toInt = (if cb b s j then -(fa L b j : Int) else 0) ∧ (rd M 105 j).toInt = (if cb b s j then 0 else (fa L b j : Int)) ∧ (rd M 106 j).toInt = (if cb b s j then -(fa L b j : Int) else 0) ∧ (rd M 107 j).toInt = (if cb b s j then -(nr L b j : Int) else 0) ∧ (rd M 108 j).toInt = (if cb b s j then 0 else (nr L b j : Int)) ∧ (rd M 109 j).toInt = (if cb b s j then 0 else (fa L b j : Int))
theorem imin_t {x y : Int32} : (imin x y).toInt = min x.toInt y.toInt := by
  unfold imin
  split
  · rename_i h; have := i_lt.mp h; omega
  · rename_i h; have := i_nlt h; omega
theorem imax_t {x y : Int32} : (imax x y).toInt = max x.toInt y.toInt := by
  unfold imax
  split
  · rename_i h; have := i_lt.mp h; omega
  · rename_i h; have := i_nlt h; omega
theorem LY_of (h : Ln L) {j : Nat} (hj : j < L.length) (hb : b + 1 < L.length) (lo bk : Bool) (hlo : lo = true ∧ j ≤ b ∨ lo = false ∧ b < j) (hc : cb b s j = bk) (hg : LGs 103 (WX L b lo bk) (WY L b lo bk) (fun _ => WD bk) (fun j => Int32.ofNat (L.getD j 0)) M j) : LY L b s M j := by
  obtain ⟨a1, a2, a3, a4⟩ := W_to h hj hb lo bk hlo
  have hfn := fa_nr hj hb
  obtain ⟨g1, g2, g3, g4, g5, g6⟩ := hg
  unfold LY
  rw [show rd M 104 j = _ from g1, show rd M 105 j = _ from g2, show rd M 106 j = _ from g3, show rd M 107 j = _ from g4, show rd M 108 j = _ from g5, show rd M 109 j = _ from g6, imin_t, imax_t, imin_t, imax_t, a1, a2, a3, a4, hc]
  cases bk
  · refine ⟨rfl, rfl, rfl, rfl, ?_, ?_⟩
    · show min (nr L b j : Int) (fa L b j : Int) = nr L b j; omega
    · show max (nr L b j : Int) (fa L b j : Int) = fa L b j; omega
  · refine ⟨rfl, rfl, ?_, ?_, rfl, rfl⟩
    · show min (-(nr L b j : Int)) (-(fa L b j : Int)) = -(fa L b j : Int); omega
    · show max (-(nr L b j : Int)) (-(fa L b j : Int)) = -(nr L b j : Int); omega
/-- all legs in a step -/
def LAY (L : List Nat) (b s : Nat) (M : Mem) : Prop := (∀ j, j < L.length → LY L b s M j) ∧ rd M 103 6 = Int32.ofNat L.length ∧ (rd M 103 7).toInt = (if s = 0 then 0 else (b : Int) + 1) ∧ (rd M 103 8).toInt = (if s = 0 then (b : Int) else (L.length : Int) - 1)
theorem LY.keep {M' : Mem} {j : Nat} (h : LY L b s M j) (e : ∀ c, rd M' c j = rd M c j) : LY L b s M' j := by
  unfold LY
  rw [e, e, e, e, e, e]; exact h
end STp
