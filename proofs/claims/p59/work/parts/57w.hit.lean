/-! clamped legs, the gauge, what is hit -/
section HT
variable {M N M0 N0 : Mem} {k k1 b s : Nat}
def clm (b s j : Nat) : Prop := if s = 0 then j ≤ b else b < j
theorem pc_clC {j : Nat} (h : SH k b s M N) (hj : (j : Int) < (rd N 136 1).toInt) (h9 : (rd N 136 1).toInt ≤ 9) : Pc (mX2_isClamped k (Int32.ofNat j) M) (fun r => (r = 1 ∧ clm b s j) ∨ (r = 0 ∧ ¬ clm b s j)) := by
  unfold mX2_isClamped clm
  have tj : (Int32.ofNat j).toInt = (j : Int) := t_of (by omega)
  have h7 := h.2.2.1; have h8 := h.2.2.2
  refine Pc.i (fun c => Pc.ok (Or.inr ⟨rfl, ?_⟩)) (fun c => Pc.i (fun c2 => Pc.ok (Or.inr ⟨rfl, ?_⟩)) (fun c2 => Pc.ok (Or.inl ⟨rfl, ?_⟩)))
  · have c := i_lt.mp c
    rw [tj, h7] at c
    split at c
    · exfalso; omega
    · rename_i e; rw [if_neg e]; omega
  · have c2 := i_lt.mp c2
    rw [tj, h8] at c2
    split at c2
    · rename_i e; rw [if_pos e]; omega
    · exfalso; omega
  · have c := i_nlt c
    have c2 := i_nlt c2
    rw [tj, h7] at c
    rw [tj, h8] at c2
    split
    · rename_i e; rw [if_pos e] at c2; omega
    · rename_i e; rw [if_neg e] at c; omega
/-- a leg has a point in an open rectangle -/
def Ent (N : Mem) (l : Nat) (x2 x3 x4 x5 : Int32) : Prop := x2.toInt < x3.toInt ∧ x4.toInt < x5.toInt ∧ min (rd N 141 l).toInt (rd N 143 l).toInt < x3.toInt ∧ x2.toInt < max (rd N 141 l).toInt (rd N 143 l).toInt ∧ min (rd N 142 l).toInt (rd N 144 l).toInt < x5.toInt ∧ x4.toInt < max (rd N 142 l).toInt (rd N 144 l).toInt
theorem pc_enters {l : Nat} {x2 x3 x4 x5 : Int32} (hl : l < 100) (h : LG k M N l) : Pc (mX2_enters k (Int32.ofNat l) x2 x3 x4 x5 M) (fun r => (r = 1 ∧ Ent N l x2 x3 x4 x5) ∨ (r = 0 ∧ ¬ Ent N l x2 x3 x4 x5)) := by
  unfold mX2_enters Ent
  have cl := c_of (a := l) (by omega)
  obtain ⟨_, _, h3, h4, h5, h6⟩ := h
  rw [cl, h3, h4, h5, h6]
  have z : ∀ A : Prop, ¬ A → Pc (some (0 : Int32)) (fun r => (r = 1 ∧ A) ∨ (r = 0 ∧ ¬ A)) := fun A hA => Pc.ok (Or.inr ⟨rfl, hA⟩)
  refine Pc.i (fun c => z _ ?_) (fun c1 => Pc.i (fun c2 => Pc.k (fun _ => Pc.i (fun c => z _ ?_) (fun c3 => Pc.k (fun _ => Pc.i (fun c => z _ ?_) (fun c4 => Pc.k (fun _ => Pc.i (fun c => z _ ?_) (fun c5 => Pc.k (fun _ => Pc.i (fun c => z _ ?_) (fun c6 => Pc.ok (Or.inl ⟨rfl, ?_⟩)))))))))) (fun c => z _ ?_))
  · have c := i_le.mp c; omega
  · have c := i_le.mp c; rw [i_min] at c; omega
  · have c := i_le.mp c; rw [i_max] at c; omega
  · have c := i_le.mp c; rw [i_min] at c; omega
  · have c := i_le.mp c; rw [i_max] at c; omega
  · have c1 := i_nle c1; have c2 := i_lt.mp c2; have c3 := i_nle c3; have c4 := i_nle c4; have c5 := i_nle c5; have c6 := i_nle c6
    rw [i_min] at c3 c5
    rw [i_max] at c4 c6
    exact ⟨c1, c2, c3, c4, c5, c6⟩
  · have c := i_nlt c; omega
end HT

