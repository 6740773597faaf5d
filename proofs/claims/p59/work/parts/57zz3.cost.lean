/-! what a step costs now: alike -/
section CO
variable {M N : Mem} {k b s a n : Nat}
/-- the steps of a row are steps -/
def SQ (n : Nat) (f : Nat → Int32) : Prop := ∀ j : Nat, (j : Int) < (f 53).toInt → (0 ≤ (f (54 + 4 * j)).toInt ∧ (f (54 + 4 * j)).toInt < (n : Int)) ∧ (0 ≤ (f (55 + 4 * j)).toInt ∧ (f (55 + 4 * j)).toInt ≤ 1)
theorem pc_lastCode (h8 : (rd M k 14).toInt ≤ 8) : Pc (mX1_lastCode k M) (fun r => ((rd M k 14).toInt ≤ 0 ∧ r = -1) ∨ (0 < (rd M k 14).toInt ∧ r = rd M (k + 5) ((rd M k 14).toInt.toNat - 1))) := by
  unfold mX1_lastCode
  have n1 : ((1 : Int32)).toInt = 1 := rfl
  refine Pc.i (fun c => Pc.ok (Or.inl ⟨?_, rfl⟩)) (fun c => Pc.k (fun _ => Pc.ok (Or.inr ⟨?_, ?_⟩)))
  · have c := i_le.mp c; exact c
  · have c := i_nle c; exact c
  · have c : 0 < (rd M k 14).toInt := i_nle c
    rw [i_clamp, i_sub (by omega) (by omega), n1, show ((rd M k 14).toInt - 1).toNat = (rd M k 14).toInt.toNat - 1 by omega]
theorem pc_lastGauge (h8 : (rd M k 14).toInt ≤ 8) : Pc (mX1_lastGauge k M) (fun r => ((rd M k 14).toInt ≤ 0 ∧ r = -1) ∨ (0 < (rd M k 14).toInt ∧ r = rd M (k + 6) ((rd M k 14).toInt.toNat - 1))) := by
  unfold mX1_lastGauge
  have n1 : ((1 : Int32)).toInt = 1 := rfl
  refine Pc.i (fun c => Pc.ok (Or.inl ⟨?_, rfl⟩)) (fun c => Pc.k (fun _ => Pc.ok (Or.inr ⟨?_, ?_⟩)))
  · have c := i_le.mp c; exact c
  · have c := i_nle c; exact c
  · have c : 0 < (rd M k 14).toInt := i_nle c
    rw [i_clamp, i_sub (by omega) (by omega), n1, show ((rd M k 14).toInt - 1).toNat = (rd M k 14).toInt.toNat - 1 by omega]
end CO

