/-! clamped legs, the gauge, what is hit -/
section HT
variable {M N M0 N0 : Mem} {k k1 b s : Nat}
def clm (b s j : Nat) : Prop := if s = 0 then j ≤ b else b < j
theorem pc_clC {j : Nat} (h : SH k b s M N) (hj : (j : Int) < (rd N 136 1).toInt) (h9 : (rd N 136 1).toInt ≤ 9) : Pc (mX2_isClamped k (Int32.ofNat j) M) (fun r => (r = 1 ∧ clm b s j) ∨ (r = 0 ∧ ¬ clm b s j)) := by
  unfold mX2_isClamped clm
  have tj : (Int32.ofNat j).toInt = (j : Int) := t_of (by omega)
  have h7 := h.2.2.1; have h8 := h.2.2.2
  refine Pc.i (fun c => Pc.ok (Or.inr ⟨rfl, ?_⟩)) (fun c => Pc.i (fun c2 => Pc.ok (Or.inr ⟨rfl, ?_⟩)) (fun c2 => Pc.ok (Or.inl ⟨rfl, ?_⟩)))
  · have c := i_lt.mp c
    rw [tj, h7] at c
    split at c
    · exfalso; omega
    · rename_i e; rw [if_neg e]; omega
  · have c2 := i_lt.mp c2
    rw [tj, h8] at c2
    split at c2
    · rename_i e; rw [if_pos e]; omega
    · exfalso; omega
  · have c := i_nlt c
    have c2 := i_nlt c2
    rw [tj, h7] at c
    rw [tj, h8] at c2
    split
    · rename_i e; rw [if_pos e] at c2; omega
    · rename_i e; rw [if_neg e] at c; omega
theorem pc_clR {j : Nat} (hj : j < 100) (hb : b < 100) (hs : s < 2) : Pc (mX7_isClamped 135 (Int32.ofNat j) (Int32.ofNat b) (Int32.ofNat s) N) (fun r => (r = 1 ∧ clm b s j) ∨ (r = 0 ∧ ¬ clm b s j)) := by
  unfold mX7_isClamped clm
  have tj : (Int32.ofNat j).toInt = (j : Int) := t_of (by omega)
  have tb : (Int32.ofNat b).toInt = (b : Int) := t_of (by omega)
  have ts : (Int32.ofNat s).toInt = (s : Int) := t_of (by omega)
  refine Pc.i (fun c => Pc.i (fun c2 => Pc.ok (Or.inr ⟨rfl, ?_⟩)) (fun c2 => Pc.ok (Or.inl ⟨rfl, ?_⟩))) (fun c => Pc.i (fun c2 => Pc.ok (Or.inr ⟨rfl, ?_⟩)) (fun c2 => Pc.ok (Or.inl ⟨rfl, ?_⟩)))
  · have c := congrArg Int32.toInt c
    rw [ts, show ((0 : Int32)).toInt = 0 from rfl] at c
    have c2 := i_lt.mp c2
    rw [tj, tb] at c2
    rw [if_pos (by omega)]; omega
  · have c := congrArg Int32.toInt c
    rw [ts, show ((0 : Int32)).toInt = 0 from rfl] at c
    have c2 := i_nlt c2
    rw [tj, tb] at c2
    rw [if_pos (by omega)]; omega
  · have c := i_ne c
    rw [ts, show ((0 : Int32)).toInt = 0 from rfl] at c
    have c2 := i_le.mp c2
    rw [tj, tb] at c2
    rw [if_neg (by omega)]; omega
  · have c := i_ne c
    rw [ts, show ((0 : Int32)).toInt = 0 from rfl] at c
    have c2 := i_nle c2
    rw [tj, tb] at c2
    rw [if_neg (by omega)]; omega
theorem gauge_l (h : SH k b s M N) (hb : b < 100) (hs : s < 2) (h9 : (rd N 136 1).toInt ≤ 9) : ∀ (n m j : Nat) (acc : Int32), j ≤ 9 → R2 (mX2_reachToBack_l4 k M n acc (Int32.ofNat j)) (mX7_gaugeLaid_l5 135 N m (Int32.ofNat b) (Int32.ofNat s) acc (Int32.ofNat j)) (fun p q => p = q) := by
  intro n
  induction n with
  | zero => intro m j acc _; exact R2.nl
  | succ n IH =>
    intro m j acc hj
    cases m with
    | zero => exact R2.nr
    | succ m =>
      show R2 (mX2_reachToBack_b4 k M (mX2_reachToBack_l4 k M n) acc (Int32.ofNat j)) (mX7_gaugeLaid_b5 135 N (mX7_gaugeLaid_l5 135 N m) (Int32.ofNat b) (Int32.ofNat s) acc (Int32.ofNat j)) _
      unfold mX2_reachToBack_b4 mX7_gaugeLaid_b5 mX2_reachToBack_b38 mX7_gaugeLaid_b43
      have tj : (Int32.ofNat j).toInt = (j : Int) := t_of (by omega)
      have cj := c_of (a := j) (by omega)
      rw [h.2.1, cj]
      refine R2.kr (fun _ => R2.il (fun c => R2.ir (fun _ => R2.ok rfl) (fun z => absurd c z)) (fun c => R2.ir (fun z => absurd z c) (fun _ => R2.il (fun c9 => ?_) (fun _ => ?_))))
      · have c9 := i_le.mp c9
        have c := i_nle c
        have c : (Int32.ofNat j).toInt < (rd N 136 1).toInt := c
        rw [tj, show ((9 : Int32)).toInt = 9 from rfl] at c9
        exfalso; omega
      have c : (Int32.ofNat j).toInt < (rd N 136 1).toInt := i_nle c
      rw [tj] at c
      have nxt : ∀ (acc' : Int32), R2 (bnd (Int32.ofNat j + (1 : Int32)) (fun x2_38 => mX2_reachToBack_l4 k M n acc' x2_38)) (bnd (Int32.ofNat j + (1 : Int32)) (fun x4_44 => mX7_gaugeLaid_l5 135 N m (Int32.ofNat b) (Int32.ofNat s) acc' x4_44)) (fun p q => p = q) := by
        intro acc'
        refine R2.bl (fun x ex => R2.br (fun y ey => ?_))
        rw [ex, ey]
        have e := Int32.ofNat_add j 1
        rw [show Int32.ofNat j + (1 : Int32) = Int32.ofNat (j + 1) from e.symm]
        exact IH m (j + 1) acc' (by omega)
      refine R2.cl (pc_clC h c h9) (fun r p => R2.cr (pc_clR (b := b) (s := s) (N := N) (j := j) (by omega) hb hs) (fun r' p' => ?_))
      have e : r = r' := by
        rcases p with ⟨e, q⟩ | ⟨e, q⟩ <;> rcases p' with ⟨e', q'⟩ | ⟨e', q'⟩
        · rw [e, e']
        · exact absurd q q'
        · exact absurd q' q
        · rw [e, e']
      subst e
      refine R2.il (fun c0 => R2.ir (fun _ => nxt acc) (fun z => absurd c0 z)) (fun c0 => R2.ir (fun z => absurd z c0) (fun _ => R2.kl (fun _ => R2.bl (fun v ev => R2.kr (fun _ => ?_)))))
      have el : rd M (k + 1) j = rd N (135 + 8) j := (h.1 j c).1
      rw [ev, el]
      exact nxt _
theorem gauge_R (h : SH k b s M N) (hb : b < 100) (hs : s < 2) (h9 : (rd N 136 1).toInt ≤ 9) : R2 (mX2_reachToBack k M) (mX7_gaugeLaid 135 (Int32.ofNat b) (Int32.ofNat s) N) (fun p q => p = q) := by
  unfold mX2_reachToBack mX7_gaugeLaid
  exact gauge_l h hb hs h9 5000 5000 0 0 (by omega)
/-- a leg has a point in an open rectangle -/
def Ent (N : Mem) (l : Nat) (x2 x3 x4 x5 : Int32) : Prop := x2.toInt < x3.toInt ∧ x4.toInt < x5.toInt ∧ min (rd N 141 l).toInt (rd N 143 l).toInt < x3.toInt ∧ x2.toInt < max (rd N 141 l).toInt (rd N 143 l).toInt ∧ min (rd N 142 l).toInt (rd N 144 l).toInt < x5.toInt ∧ x4.toInt < max (rd N 142 l).toInt (rd N 144 l).toInt
theorem pc_enters {l : Nat} {x2 x3 x4 x5 : Int32} (hl : l < 100) (h : LG k M N l) : Pc (mX2_enters k (Int32.ofNat l) x2 x3 x4 x5 M) (fun r => (r = 1 ∧ Ent N l x2 x3 x4 x5) ∨ (r = 0 ∧ ¬ Ent N l x2 x3 x4 x5)) := by
  unfold mX2_enters Ent
  have cl := c_of (a := l) (by omega)
  obtain ⟨_, _, h3, h4, h5, h6⟩ := h
  rw [cl, h3, h4, h5, h6]
  have z : ∀ A : Prop, ¬ A → Pc (some (0 : Int32)) (fun r => (r = 1 ∧ A) ∨ (r = 0 ∧ ¬ A)) := fun A hA => Pc.ok (Or.inr ⟨rfl, hA⟩)
  refine Pc.i (fun c => z _ ?_) (fun c1 => Pc.i (fun c2 => Pc.k (fun _ => Pc.i (fun c => z _ ?_) (fun c3 => Pc.k (fun _ => Pc.i (fun c => z _ ?_) (fun c4 => Pc.k (fun _ => Pc.i (fun c => z _ ?_) (fun c5 => Pc.k (fun _ => Pc.i (fun c => z _ ?_) (fun c6 => Pc.ok (Or.inl ⟨rfl, ?_⟩)))))))))) (fun c => z _ ?_))
  · have c := i_le.mp c; omega
  · have c := i_le.mp c; rw [i_min] at c; omega
  · have c := i_le.mp c; rw [i_max] at c; omega
  · have c := i_le.mp c; rw [i_min] at c; omega
  · have c := i_le.mp c; rw [i_max] at c; omega
  · have c1 := i_nle c1; have c2 := i_lt.mp c2; have c3 := i_nle c3; have c4 := i_nle c4; have c5 := i_nle c5; have c6 := i_nle c6
    rw [i_min] at c3 c5
    rw [i_max] at c4 c6
    exact ⟨c1, c2, c3, c4, c5, c6⟩
  · have c := i_nlt c; omega
theorem pc_isCrossing {a b' lo hi : Int32} : Pc (mX7_isCrossing a b' lo hi N) (fun r => (r = 1 ∧ lo.toInt < hi.toInt ∧ min a.toInt b'.toInt < hi.toInt ∧ lo.toInt < max a.toInt b'.toInt) ∨ (r = 0 ∧ ¬ (lo.toInt < hi.toInt ∧ min a.toInt b'.toInt < hi.toInt ∧ lo.toInt < max a.toInt b'.toInt))) := by
  unfold mX7_isCrossing mX7_isCrossing_b37
  refine Pc.b (fun x ex => Pc.b (fun y ey => ?_))
  have ex := congrArg Int32.toInt ex
  have ey := congrArg Int32.toInt ey
  rw [i_min] at ex
  rw [i_max] at ey
  refine Pc.i (fun c => Pc.i (fun c2 => Pc.ok (Or.inr ⟨rfl, ?_⟩)) (fun c2 => Pc.i (fun c3 => Pc.ok (Or.inr ⟨rfl, ?_⟩)) (fun c3 => Pc.ok (Or.inl ⟨rfl, ?_⟩)))) (fun c => Pc.i (fun c2 => Pc.ok (Or.inr ⟨rfl, ?_⟩)) (fun c2 => Pc.ok (Or.inl ⟨rfl, ?_⟩)))
  · have c := congrArg Int32.toInt c; have c2 := i_le.mp c2; omega
  · have c := congrArg Int32.toInt c; have c3 := i_le.mp c3; omega
  · have c := congrArg Int32.toInt c; have c2 := i_nle c2; have c3 := i_nle c3; omega
  · have c := i_ne c; have c2 := i_le.mp c2; rw [i_min, i_max] at c2; omega
  · have c := i_ne c; have c2 := i_nle c2; rw [i_min, i_max] at c2; omega
theorem pc_isInside {l : Nat} {x2 x3 x4 x5 : Int32} (hl : l < 100) : Pc (mX7_isInside 135 (Int32.ofNat l) x2 x3 x4 x5 N) (fun r => (r = 1 ∧ Ent N l x2 x3 x4 x5) ∨ (r = 0 ∧ ¬ Ent N l x2 x3 x4 x5)) := by
  unfold mX7_isInside Ent
  have cl := c_of (a := l) (by omega)
  rw [cl]
  refine Pc.k (fun _ => Pc.k (fun _ => Pc.c pc_isCrossing (fun r p => ?_)))
  have pe : (r = 1 ∧ x2.toInt < x3.toInt ∧ min (rd N 141 l).toInt (rd N 143 l).toInt < x3.toInt ∧ x2.toInt < max (rd N 141 l).toInt (rd N 143 l).toInt) ∨ (r = 0 ∧ ¬ (x2.toInt < x3.toInt ∧ min (rd N 141 l).toInt (rd N 143 l).toInt < x3.toInt ∧ x2.toInt < max (rd N 141 l).toInt (rd N 143 l).toInt)) := p
  clear p
  rcases pe with ⟨rfl, pe⟩ | ⟨rfl, pe⟩
  · refine Pc.i (fun z => absurd z (by decide)) (fun _ => Pc.k (fun _ => Pc.k (fun _ => Pc.c pc_isCrossing (fun r' p' => ?_))))
    have pf : (r' = 1 ∧ x4.toInt < x5.toInt ∧ min (rd N 142 l).toInt (rd N 144 l).toInt < x5.toInt ∧ x4.toInt < max (rd N 142 l).toInt (rd N 144 l).toInt) ∨ (r' = 0 ∧ ¬ (x4.toInt < x5.toInt ∧ min (rd N 142 l).toInt (rd N 144 l).toInt < x5.toInt ∧ x4.toInt < max (rd N 142 l).toInt (rd N 144 l).toInt)) := p'
    clear p'
    rcases pf with ⟨rfl, pf⟩ | ⟨rfl, pf⟩
    · exact Pc.i (fun z => absurd z (by decide)) (fun _ => Pc.ok (Or.inl ⟨rfl, pe.1, pf.1, pe.2.1, pe.2.2, pf.2.1, pf.2.2⟩))
    · exact Pc.i (fun _ => Pc.ok (Or.inr ⟨rfl, fun z => pf ⟨z.2.1, z.2.2.2.2.1, z.2.2.2.2.2⟩⟩)) (fun z => absurd rfl z)
  · exact Pc.i (fun _ => Pc.ok (Or.inr ⟨rfl, fun z => pe ⟨z.1, z.2.2.1, z.2.2.2.1⟩⟩)) (fun z => absurd rfl z)
end HT
