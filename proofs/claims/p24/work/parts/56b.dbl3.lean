section D6
variable {s : Nat → Int × Int} {M : Mem}
theorem sX6_deduction (_ : OKb (fT s) M) : Sf (mX6_deduction 0 M) pD := by
  unfold mX6_deduction
  exact Sf.c sX1_deductionOfBend (fun r _ => Sf.ok trivial)
theorem sX6_ratio (_ : OKb (fT s) M) : Sf (mX6_ratio 0 M) pD := by
  unfold mX6_ratio
  exact Sf.c sX1_ratioOfSheet (fun r _ => Sf.ok trivial)
theorem sX6_springBack (h_M : OKb (fT s) M) : Sf (mX6_springBack 0 M) pD := by
  unfold mX6_springBack
  exact Sf.c sX1_ratioOfSheet (fun r h => Sf.c (sX1_springBackAt isP_5 h_M h) (fun _ _ => Sf.ok trivial))
theorem sX6_swingAngle (h_M : OKb (fT s) M) : Sf (mX6_swingAngle 0 M) (fun _ => True) := by
  unfold mX6_swingAngle
  exact Sf.c sX1_ratioOfSheet (fun r h => Sf.c (sX1_springBackAt isP_5 h_M h) (fun _ _ => Sf.ok trivial))
theorem sX6_flatLength (h_M : OKb (fT s) M) : Sf (mX6_flatLength 0 M) pD := by
  unfold mX6_flatLength
  have b : (0 : Int) ≤ (rd M 5 0).toInt ∧ (rd M 5 0).toInt ≤ 9 := h_M.at rfl
  refine Sf.i (fun _ => Sf.ok trivial) (fun c => Sf.c (sX1_sumOfLegs isP_5 h_M ⟨by have := i_ne c; rw [show ((0 : Int32)).toInt = 0 from rfl] at this; omega, by omega⟩) (fun r3 _ => Sf.c (sX1_bendCount isP_5 h_M) (fun r6 _ => Sf.c sX1_deductionOfBend (fun r9 h9 => ?_))))
  have a1 := (mg_i r6).mul h9 (K := 1134) (by decide) (by decide) (by decide)
  have a2 := ((mg_i r3).up (K' := 1134) (by decide)).sub a1 (K' := 1136) (by decide) (by decide)
  exact Sf.k (n64_of a1 (by decide)) (Sf.k (n64_of a2 (by decide)) (Sf.ok trivial))
theorem sX6_linePlace {x1 : Int32} (h_M : OKb (fT s) M) : Sf (mX6_linePlace 0 x1 M) (pX (fT s) rT [1]) := by
  unfold mX6_linePlace
  refine Sf.x (sX6_requireBend h_M) (fun M3 _ p => ?_) (fun M e h => ⟨h.1, h.2⟩)
  have h_M3 : OKb (fT s) M3 := p.1
  have ph : ((0 : Int) ≤ (x1).toInt ∧ (x1).toInt ≤ 7) := p.2
  have n1 : ((1 : Int32)).toInt = 1 := rfl
  have e := i_add (a := x1) (b := 1) (by omega) (by omega)
  have a0 := (mg_i x1).add (mg_half.up (K' := 1056) (by decide)) (K' := 1058) (by decide) (by decide)
  refine Sf.c (sX1_sumOfLegs isP_5 h_M3 ⟨by omega, by omega⟩) (fun r6 _ => Sf.k (n64_of a0 (by decide)) (Sf.c sX1_deductionOfBend (fun r10 h10 => ?_)))
  have a1 := a0.mul h10 (K := 1136) (by decide) (by decide) (by decide)
  have a2 := ((mg_i r6).up (K' := 1136) (by decide)).sub a1 (K' := 1138) (by decide) (by decide)
  exact Sf.k (n64_of a1 (by decide)) (Sf.k (n64_of a2 (by decide)) (Sf.ok ⟨h_M3, trivial⟩))
theorem sX6_springBackFor_b19 {x1 : UInt64} {y0 : Int32} (h_M : OKb (fT s) M) (h1 : Mg 1070 x1) : Sf (mX6_springBackFor_b19 0 x1 y0 M) (pX (fT s) rT [0]) := by
  unfold mX6_springBackFor_b19
  exact Sf.i (fun _ => Sf.ok ⟨h_M, show (0 : Nat) ∈ [0] from by decide⟩) (fun _ => Sf.c (sX1_springBackAt isP_5 h_M h1) (fun _ _ => Sf.ok ⟨h_M, trivial⟩))
theorem sX6_springBackFor {x1 : UInt64} (h_M : OKb (fT s) M) (h1 : Mg 1070 x1) : Sf (mX6_springBackFor 0 x1 M) (pX (fT s) rT [0]) := by
  unfold mX6_springBackFor mX6_springBackFor_b18
  exact Sf.i (fun _ => sX6_springBackFor_b19 h_M h1) (fun _ => Sf.i (fun _ => sX6_springBackFor_b19 h_M h1) (fun _ => sX6_springBackFor_b19 h_M h1))
theorem sL_springBackFor {k1 : Nat} {x1 : UInt64} (h_M : OKb (fT s) M) (h1 : Mg 1070 x1) : Sf (mL_springBackFor 0 k1 x1 M) (pX (fT s) (rI (0) (1)) []) := by
  unfold mL_springBackFor
  refine Sf.t (sX6_springBackFor h_M h1) (fun M3 r2 p => ?_) (fun M3 e4 p => ?_)
  · exact Sf.k (by decide) (Sf.b (fun M7 e => Sf.ok ⟨by rw [e]; exact OKb.pd p.1, show (0 : Int) ≤ ((0 : Int32)).toInt ∧ ((0 : Int32)).toInt ≤ 1 from by decide⟩))
  · have pe : e4 ∈ [0] := p.2
    refine Sf.i (fun _ => Sf.ok ⟨p.1, show (0 : Int) ≤ ((1 : Int32)).toInt ∧ ((1 : Int32)).toInt ≤ 1 from by decide⟩) (fun c => ?_)
    simp only [List.mem_cons, List.not_mem_nil, or_false] at pe
    exact absurd pe c
theorem sL_linePlace {k1 : Nat} {x1 : Int32} (h_M : OKb (fT s) M) : Sf (mL_linePlace 0 k1 x1 M) (pX (fT s) (rI (0) (1)) []) := by
  unfold mL_linePlace
  refine Sf.t (sX6_linePlace h_M) (fun M3 r2 p => ?_) (fun M3 e4 p => ?_)
  · exact Sf.k (by decide) (Sf.b (fun M7 e => Sf.ok ⟨by rw [e]; exact OKb.pd p.1, show (0 : Int) ≤ ((0 : Int32)).toInt ∧ ((0 : Int32)).toInt ≤ 1 from by decide⟩))
  · have pe : e4 ∈ [1] := p.2
    refine Sf.i (fun _ => Sf.ok ⟨p.1, show (0 : Int) ≤ ((1 : Int32)).toInt ∧ ((1 : Int32)).toInt ≤ 1 from by decide⟩) (fun c => ?_)
    simp only [List.mem_cons, List.not_mem_nil, or_false] at pe
    exact absurd pe c
end D6
