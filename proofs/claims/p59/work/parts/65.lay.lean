/-! a step is laid when nothing is made; what is measured on it -/
section LYx
variable {M : Mem} {L : List Nat} {b s : Nat}
theorem df_self {x : Nat} (h : x < 10000) : df x x = 0 := by rw [i_eq, df_t h h, Int32.toInt_zero]; omega
theorem WX_b (h : Ln L) (hb : b + 1 < L.length) (bk : Bool) : WX L b true bk b = 0 ∧ WY L b true bk b = 0 ∧ WX L b false bk (b + 1) = 0 ∧ WY L b false bk (b + 1) = 0 := by
  have h2 := ps_b h (b + 1) (by omega)
  have h4 := h.1
  have e := df_self (x := ps L (b + 1)) (by omega)
  cases bk
  · exact ⟨rfl, e, rfl, e⟩
  · exact ⟨e, rfl, e, rfl⟩
theorem WD_lt {bk : Bool} : WD bk < 4 := by cases bk <;> decide
abbrev lnF (L : List Nat) : Nat → Int32 := fun j => Int32.ofNat (L.getD j 0)
theorem wk_lo (h : Ln L) (hb : b + 1 < L.length) {bk : Bool} {t : Nat} {x7 : Int32} (ht : t < 4) (ht0 : 0 < t) (hW : WIs 103 5 L.length (lnF L) M) : Pc (mX2_walk 103 5 (Int32.ofNat b) (-1 : Int32) (Int32.ofNat (WD bk)) (Int32.ofNat t) (0 : Int32) x7 M) (RW 103 L.length (WX L b true bk) (WY L b true bk) (fun _ => WD bk) (lnF L) (-1) (b : Int) M) := by
  have h4 := h.1
  have tb : (Int32.ofNat b).toInt = (b : Int) := t_of (by omega)
  have hF : Fit ((-1 : Int32)).toInt L.length (WX L b true bk) (WY L b true bk) (fun _ => WD bk) (lnF L) (fun _ => false) 0 0 t := W_fit h hb true bk
  obtain ⟨e1, e2, -, -⟩ := WX_b h hb bk
  have r := wk_l (k := 103) (k1 := 5) (up := fun _ => false) (n := 0) (a := 0) (t := t) (x7 := x7) (s := (-1 : Int32)) (by omega) (Or.inr rfl) (by decide) (by decide) ht ht0 (fun b hb => absurd hb (by omega)) (by omega) hF (fun _ => WD_lt) 5000 (Int32.ofNat b) (WD bk) 0 0 M hW (by rw [tb]; omega) (fun _ => by rw [tb]; omega) (fun z => absurd z (by decide)) (fun _ _ => by rw [tb]; exact ⟨e1.symm, e2.symm, rfl⟩)
  rw [tb] at r
  exact r
theorem wk_hi (h : Ln L) (hb : b + 1 < L.length) {bk : Bool} {t : Nat} {x7 : Int32} (ht : t < 4) (ht0 : 0 < t) (hW : WIs 103 5 L.length (lnF L) M) : Pc (mX2_walk 103 5 (Int32.ofNat b + (1 : Int32)) (1 : Int32) (Int32.ofNat (WD bk)) (Int32.ofNat t) (0 : Int32) x7 M) (RW 103 L.length (WX L b false bk) (WY L b false bk) (fun _ => WD bk) (lnF L) 1 ((b : Int) + 1) M) := by
  have h4 := h.1
  have eb : Int32.ofNat b + (1 : Int32) = Int32.ofNat (b + 1) := o_add (b := 1) (by omega)
  have tb : (Int32.ofNat (b + 1)).toInt = (b : Int) + 1 := by rw [t_of (by omega)]; omega
  have hF : Fit ((1 : Int32)).toInt L.length (WX L b false bk) (WY L b false bk) (fun _ => WD bk) (lnF L) (fun _ => false) 0 0 t := W_fit h hb false bk
  obtain ⟨-, -, e1, e2⟩ := WX_b h hb bk
  rw [eb]
  have r := wk_l (k := 103) (k1 := 5) (up := fun _ => false) (n := 0) (a := 0) (t := t) (x7 := x7) (s := (1 : Int32)) (by omega) (Or.inl rfl) (by decide) (by decide) ht ht0 (fun b hb => absurd hb (by omega)) (by omega) hF (fun _ => WD_lt) 5000 (Int32.ofNat (b + 1)) (WD bk) 0 0 M hW (by rw [tb]; omega) (fun z => absurd z (by decide)) (fun _ => by rw [tb]; omega) (fun _ _ => by rw [tb]; exact ⟨e1.symm, e2.symm, rfl⟩)
  rw [tb] at r
  exact r
/-- what a part tells the places -/
def LPp (L : List Nat) (M : Mem) : Prop := rd M 5 0 = Int32.ofNat L.length ∧ ∀ j, j < L.length → rd M 6 j = Int32.ofNat (L.getD j 0)
theorem LPp.ks {M' : Mem} (h : LPp L M) (hk : KS (SPs 103) M M') : LPp L M' := ⟨(hk 5 0 (fun q => by rcases q with q | q <;> omega)).trans h.1, fun j hj => (hk 6 j (fun q => by rcases q with q | q <;> omega)).trans (h.2 j hj)⟩
theorem pl_sp {M M' : Mem} (h : KS (SPl 103) M M') : KS (SPs 103) M M' := h.mono (fun k j h => Or.inl h)
theorem pc_b27 (h : Ln L) (hb : b + 1 < L.length) (hs : s < 2) (hP : LPp L M) {y0 : Int32} : Pc (mX2_layStep_b27 103 5 (0 : Int32) (Int32.ofNat (2 * b + s)) (Int32.ofNat b) y0 M) (fun q => LAY L b s q.1 ∧ KS (SPs 103) M q.1) := by
  have h4 := h.1
  have tb : (Int32.ofNat b).toInt = (b : Int) := t_of (by omega)
  have eb : Int32.ofNat b + (1 : Int32) = Int32.ofNat (b + 1) := o_add (b := 1) (by omega)
  have fin : ∀ (lo1 : Bool) (M21 M25 M28 : Mem), KS (SPs 103) M M21 → rd M21 103 6 = Int32.ofNat L.length → (rd M21 103 7).toInt = (if s = 0 then 0 else (b : Int) + 1) → (rd M21 103 8).toInt = (if s = 0 then (b : Int) else (L.length : Int) - 1) → KS (SPl 103) M21 M25 → KS (SPl 103) M25 M28 → (∀ j, j < L.length → j ≤ b → LGs 103 (WX L b true (decide (s = 0))) (WY L b true (decide (s = 0))) (fun _ => WD (decide (s = 0))) (lnF L) M28 j) → (∀ j, j < L.length → b < j → LGs 103 (WX L b false (decide (s ≠ 0))) (WY L b false (decide (s ≠ 0))) (fun _ => WD (decide (s ≠ 0))) (lnF L) M28 j) → LAY L b s M28 ∧ KS (SPs 103) M M28 := by
    intro lo1 M21 M25 M28 k21 g6 g7 g8 ka kb hl hh
    have o : ∀ j, rd M28 103 j = rd M21 103 j := fun j => by rw [kb 103 j (fun q => by have := q.1; omega), ka 103 j (fun q => by have := q.1; omega)]
    refine ⟨⟨fun j hj => ?_, by rw [o]; exact g6, by rw [o]; exact g7, by rw [o]; exact g8⟩, (k21.trans (pl_sp ka)).trans (pl_sp kb)⟩
    by_cases q : j ≤ b
    · refine LY_of h hj hb true (decide (s = 0)) (Or.inl ⟨rfl, q⟩) ?_ (hl j hj q)
      unfold cb
      split
      · rename_i e; rw [decide_eq_true q, decide_eq_true e]
      · rename_i e; rw [decide_eq_false (by omega), decide_eq_false e]
    · refine LY_of h hj hb false (decide (s ≠ 0)) (Or.inr ⟨rfl, by omega⟩) ?_ (hh j hj (by omega))
      unfold cb
      split
      · rename_i e; rw [decide_eq_false q, decide_eq_false (by omega)]
      · rename_i e; rw [decide_eq_true (by omega), decide_eq_true e]
  unfold mX2_layStep_b27
  rw [f_and1 (2 * b + s) (by omega), show (2 * b + s) % 2 = s by omega]
  have hs2 : s = 0 ∨ s = 1 := by omega
  rcases hs2 with rfl | rfl
  · refine Pc.b (fun M6 e6 => Pc.i (fun _ => Pc.b (fun M19 e19 => Pc.b (fun M21 e21 => ?_))) (fun z => absurd rfl z))
    have k21 : KS (SPs 103) M M21 := by rw [e21, e19, e6]; exact ((KS.rf.wr (Or.inr ⟨rfl, by omega, by omega⟩)).wr (Or.inr ⟨rfl, by omega, by omega⟩)).wr (Or.inr ⟨rfl, by omega, by omega⟩)
    have P21 := hP.ks k21
    have g6 : rd M21 103 6 = Int32.ofNat L.length := by rw [e21, rd_wj (by decide), e19, rd_wj (by decide), e6, rd_we]; exact hP.1
    have hW : WIs 103 5 L.length (lnF L) M21 := ⟨g6, P21.2⟩
    refine Pc.m (wk_lo (bk := true) (t := 1) h hb (by decide) (by decide) hW) (fun M25 _ ⟨r1, r2, r3⟩ => ?_)
    have hW2 := hW.ks (by omega) r1
    refine Pc.m (wk_hi (bk := false) (t := 3) h hb (by decide) (by decide) hW2) (fun M28 _ ⟨q1, q2, q3⟩ => Pc.ok ?_)
    refine fin true M21 M25 M28 k21 g6 ?_ ?_ r1 q1 (fun j hj hjb => ?_) (fun j hj hjb => ?_)
    · rw [e21, rd_wj (by decide), e19, rd_we]; rfl
    · rw [e21, rd_we]; exact tb
    · have nv : ¬ vis 1 ((b : Int) + 1) j := by unfold vis; rw [if_pos rfl]; omega
      have := r2 j hj (by unfold vis; rw [if_neg (by decide)]; omega)
      unfold LGs at this ⊢
      rw [q3 _ _ nv, q3 _ _ nv, q3 _ _ nv, q3 _ _ nv, q3 _ _ nv, q3 _ _ nv]
      exact this
    · exact q2 j hj (by unfold vis; rw [if_pos rfl]; omega)
  · refine Pc.b (fun M6 e6 => Pc.i (fun z => absurd z (by decide)) (fun _ => Pc.b (fun M9 e9 => Pc.b (fun M11 e11 => ?_))))
    have k11 : KS (SPs 103) M M11 := by rw [e11, e9, e6]; exact ((KS.rf.wr (Or.inr ⟨rfl, by omega, by omega⟩)).wr (Or.inr ⟨rfl, by omega, by omega⟩)).wr (Or.inr ⟨rfl, by omega, by omega⟩)
    have P11 := hP.ks k11
    have g9 : rd M9 103 6 = Int32.ofNat L.length := by rw [e9, rd_wj (by decide), e6, rd_we]; exact hP.1
    have g6 : rd M11 103 6 = Int32.ofNat L.length := by rw [e11, rd_wj (by decide)]; exact g9
    have hW : WIs 103 5 L.length (lnF L) M11 := ⟨g6, P11.2⟩
    refine Pc.m (wk_hi (bk := true) (t := 1) h hb (by decide) (by decide) hW) (fun M15 _ ⟨r1, r2, r3⟩ => ?_)
    have hW2 := hW.ks (by omega) r1
    refine Pc.m (wk_lo (bk := false) (t := 3) h hb (by decide) (by decide) hW2) (fun M18 _ ⟨q1, q2, q3⟩ => Pc.ok ?_)
    refine fin false M11 M15 M18 k11 g6 ?_ ?_ r1 q1 (fun j hj hjb => ?_) (fun j hj hjb => ?_)
    · rw [e11, rd_wj (by decide), e9, rd_we, eb, t_of (by omega), if_neg (by decide)]; omega
    · rw [e11, rd_we, g9, i_sub (by rw [t_of (by omega)]; show _ ≤ _ - (1 : Int); omega) (by rw [t_of (by omega)]; show _ - (1 : Int) ≤ _; omega), t_of (by omega), if_neg (by decide)]; rfl
    · exact q2 j hj (by unfold vis; rw [if_neg (by decide)]; omega)
    · have nv : ¬ vis (-1) (b : Int) j := by unfold vis; rw [if_neg (by decide)]; omega
      have := r2 j hj (by unfold vis; rw [if_pos rfl]; omega)
      unfold LGs at this ⊢
      rw [q3 _ _ nv, q3 _ _ nv, q3 _ _ nv, q3 _ _ nv, q3 _ _ nv, q3 _ _ nv]
      exact this
theorem pc_lay (h : Ln L) (hb : b + 1 < L.length) (hs : s < 2) (hP : LPp L M) : Pc (mX2_layStep 103 5 (0 : Int32) (Int32.ofNat (2 * b + s)) M) (fun q => LAY L b s q.1 ∧ KS (SPs 103) M q.1) := by
  have h4 := h.1
  unfold mX2_layStep
  rw [f_shr1 (2 * b + s) (by omega), show (2 * b + s) / 2 = b by omega]
  refine Pc.b (fun x ex => ?_)
  subst ex
  exact Pc.c (Pc.self _) (fun r _ => Pc.i (fun _ => pc_b27 h hb hs hP) (fun _ => pc_b27 h hb hs hP))
/-! what is measured -/
theorem pc_cl (hL : LAY L b s M) (hb : b + 1 < L.length) (h6 : L.length ≤ 6) {j : Nat} (hj : j < L.length) : Pc (mX2_isClamped 103 (Int32.ofNat j) M) (fun r => r = if cb b s j then 1 else 0) := by
  have tj : (Int32.ofNat j).toInt = (j : Int) := t_of (by omega)
  obtain ⟨-, -, g7, g8⟩ := hL
  unfold mX2_isClamped cb
  refine Pc.i (fun c => Pc.ok ?_) (fun c => Pc.i (fun c2 => Pc.ok ?_) (fun c2 => Pc.ok ?_))
  · have c := i_lt.mp c
    rw [tj, g7] at c
    split
    · rename_i e; rw [if_pos e] at c; omega
    · rename_i e; rw [if_neg e] at c; rw [decide_eq_false (by omega)]; rfl
  · have c := i_nlt c
    have c2 := i_lt.mp c2
    rw [tj, g8] at c2
    rw [tj, g7] at c
    split
    · rename_i e; rw [if_pos e] at c2; rw [decide_eq_false (by omega)]; rfl
    · rename_i e; rw [if_neg e] at c2; omega
  · have c := i_nlt c
    have c2 := i_nlt c2
    rw [tj, g8] at c2
    rw [tj, g7] at c
    split
    · rename_i e; rw [if_pos e] at c2; rw [decide_eq_true (by omega)]; rfl
    · rename_i e; rw [if_neg e] at c; rw [decide_eq_true (by omega)]; rfl
/-- how far the clamped side reaches, how high the free one -/
def bkR (L : List Nat) (b s : Nat) : Nat := if s = 0 then ps L (b + 1) else ps L L.length - ps L (b + 1)
def upR (L : List Nat) (b s : Nat) : Nat := if s = 0 then ps L L.length - ps L (b + 1) else ps L (b + 1)
/-- the greatest so far, of the side up to the bend (lo) or behind it -/
def gm (L : List Nat) (b : Nat) (lo : Bool) (j : Nat) : Nat := if lo then (if j = 0 then 0 else ps L (b + 1)) else (if j ≤ b + 1 then 0 else ps L j - ps L (b + 1))
theorem gm_s {j : Nat} (hj : j < L.length) (hb : b + 1 < L.length) (lo : Bool) : gm L b lo (j + 1) = if (lo = true ∧ j ≤ b) ∨ (lo = false ∧ b < j) then max (gm L b lo j) (fa L b j) else gm L b lo j := by
  have h1 := ps_s (L := L) (i := j) hj
  have h0 := ps_0 (L := L)
  cases lo with
  | true =>
    unfold gm fa
    simp only [if_true, true_and, Bool.true_eq_false, false_and, or_false]
    by_cases q : j ≤ b
    · have h9 := ps_mono (L := L) (i := 0) (j := j) (by omega) (by omega)
      have e1 : (if j + 1 = 0 then 0 else ps L (b + 1)) = ps L (b + 1) := if_neg (by omega)
      by_cases e : j = 0
      · subst e
        simp only [q, if_true, e1, h0]
        omega
      · simp only [q, if_true, e1, e, if_false]
        omega
    · have e1 : (if j + 1 = 0 then 0 else ps L (b + 1)) = ps L (b + 1) := if_neg (by omega)
      have e : ¬ j = 0 := by omega
      simp only [q, if_false, e1, e]
  | false =>
    unfold gm fa
    simp only [Bool.false_eq_true, false_and, false_or, true_and, if_false]
    by_cases q : b < j
    · have q1 : ¬ j + 1 ≤ b + 1 := by omega
      have q2 : ¬ j ≤ b := by omega
      by_cases e : j ≤ b + 1
      · have e9 : j = b + 1 := by omega
        subst e9
        simp only [q, if_true, q1, if_false, q2, e]
        omega
      · have := ps_mono (L := L) (i := b + 1) (j := j) (by omega) (by omega)
        simp only [q, if_true, q1, if_false, q2, e]
        omega
    · have q1 : j + 1 ≤ b + 1 := by omega
      have q2 : j ≤ b + 1 := by omega
      simp only [q, if_false, q1, q2, if_true]
end LYx
