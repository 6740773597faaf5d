/-! doubles told alike: deductions, lengths, places, ratios -/
section DB
variable {n m a b s c l e : Nat} {M M' N N' N0 : Mem} {x x1 x2 v : Int32}
theorem d_add {a b : Int32} (h1 : -2147483648 ≤ a.toInt + b.toInt) (h2 : a.toInt + b.toInt ≤ 2147483647) (hne : a.toInt + b.toInt ≠ 0) : FP.dadd (FP.i2d a) (FP.i2d b) = FP.i2d (a + b) := by
  have e : (a + b).toInt = a.toInt + b.toInt := i_add (by omega) (by omega)
  have h3 := FP.Core.dadd_int (FP.Core.i2d_int a) (FP.Core.i2d_int b) (by omega)
  have h4 := FP.Core.i2d_int (a + b)
  rw [e] at h4
  exact FP.Core.dint_unique (by omega) h3 h4
/-- what a sheet is: thick, with a radius -/
theorem sheet_b (hI : MI N) : (1 ≤ (rd N 136 36).toInt ∧ (rd N 136 36).toInt ≤ 60) ∧ (0 ≤ (rd N 136 37).toInt ∧ (rd N 136 37).toInt ≤ 200) := ⟨hI.1.std 136 36, hI.1.std 136 37⟩
theorem sums_R {w : Nat} (hw : w ≤ 9) (hl : ∀ j : Nat, j < w → rd M (5 + 1) j = rd N 136 (2 + j)) : ∀ (f1 f2 j : Nat) (x : Int32), j ≤ w → R2 (mX1_sumOfLegs_l4 5 M f1 (Int32.ofNat w) x (Int32.ofNat j)) (mX7_sumOfLegs_l4 135 N f2 (Int32.ofNat w) x (Int32.ofNat j)) (fun r q => r = q) := by
  intro f1
  induction f1 with
  | zero => intro f2 j x _; exact R2.nl
  | succ f1 IH =>
    intro f2 j x hj
    cases f2 with
    | zero => exact R2.nr
    | succ f2 =>
      unfold mX1_sumOfLegs_l4 mX7_sumOfLegs_l4 mX1_sumOfLegs_b4 mX7_sumOfLegs_b4
      have tj : (Int32.ofNat j).toInt = (j : Int) := t_of (by omega)
      have tw : (Int32.ofNat w).toInt = (w : Int) := t_of (by omega)
      have n9 : ((9 : Int32)).toInt = 9 := rfl
      have n2 : ((2 : Int32)).toInt = 2 := rfl
      refine R2.il (fun c => R2.ir (fun _ => R2.ok rfl) (fun c2 => absurd c c2)) (fun c => R2.ir (fun c2 => absurd c2 c) (fun _ => R2.il (fun c3 => ?_) (fun c3 => ?_)))
      · have c := i_nle c; have c3 := i_le.mp c3; exfalso; omega
      have c := i_nle c
      have ei : ((2 : Int32) + Int32.ofNat j).toNatClampNeg = 2 + j := by rw [i_clamp, i_add (by omega) (by omega)]; omega
      refine R2.kl (fun _ => R2.bl (fun a1 ea1 => R2.bl (fun a3 ea3 => R2.kr (fun _ => R2.br (fun b1 eb1 => R2.br (fun b3 eb3 => ?_))))))
      rw [c_of (by omega), hl j (by omega)] at ea1
      rw [ei] at eb1
      rw [ea1, ea3, eb1, eb3, o_inc (by omega)]
      exact IH f2 (j + 1) _ (by omega)
theorem sum_R {w : Nat} (hw : w ≤ 9) (hl : ∀ j : Nat, j < w → rd M (5 + 1) j = rd N 136 (2 + j)) {x : Int32} (hx : x = Int32.ofNat w) : R2 (mX1_sumOfLegs 5 x M) (mX7_sumOfLegs 135 x N) (fun r q => r = q) := by
  subst hx
  exact sums_R hw hl 5000 5000 0 0 (by omega)
theorem ded_R (h1 : rd M 5 3 = rd N 136 36) (h2 : rd M 5 4 = rd N 136 37) (h3 : rd M 5 5 = rd N 136 38) (hb : (1 ≤ (rd N 136 36).toInt ∧ (rd N 136 36).toInt ≤ 60) ∧ (0 ≤ (rd N 136 37).toInt ∧ (rd N 136 37).toInt ≤ 200)) : R2 (mX1_deductionOfBend 5 M) (mX7_deductionNow 135 N) (fun r q => r = q) := by
  unfold mX1_deductionOfBend mX7_deductionNow
  refine R2.kl (fun _ => R2.kl (fun _ => R2.kl (fun _ => R2.kl (fun _ => R2.kl (fun _ => R2.kl (fun _ => R2.kr (fun _ => R2.br (fun y1 e1 => R2.kr (fun _ => R2.br (fun y3 e3 => R2.kr (fun _ => R2.br (fun y5 e5 => R2.kr (fun _ => R2.kr (fun _ => R2.kr (fun _ => R2.kr (fun _ => R2.kr (fun _ => R2.kr (fun _ => R2.kr (fun _ => R2.ok ?_)))))))))))))))))))
  have e1 : y1 = FP.i2d (rd N 136 36) := e1
  have e3 : y3 = FP.i2d (rd N 136 37) := e3
  have e5 : y5 = FP.i2d (rd N 136 38) := e5
  rw [h1, h2, h3, e1, e3, e5, d_add (a := rd N 136 37) (b := rd N 136 36) (by omega) (by omega) (by omega)]
theorem an_deduction (h : SS M N) (hI : MI N) : R2 (mX6_deduction 0 M) (mX7_deduction 135 N) (fun r q => r = q.2) := by
  unfold mX6_deduction mX7_deduction
  refine R2.br (fun N1 e1 => ?_)
  have r1 : ∀ j, rd N1 136 j = rd N 136 j := fun j => by rw [e1]; exact rd_wk (by decide)
  obtain ⟨s1, s2, s3⟩ := h.1.sh
  exact R2.cc (ded_R (N := N1) (by rw [r1]; exact s1) (by rw [r1]; exact s2) (by rw [r1]; exact s3) (by rw [r1, r1]; exact sheet_b hI)) (fun r q e => R2.ok e)
theorem an_flatLength (h : SS M N) (hI : MI N) : R2 (mX6_flatLength 0 M) (mX7_flatLength 135 N) (fun r q => r = q.2) := by
  have lb : 0 ≤ (rd N 136 1).toInt ∧ (rd N 136 1).toInt ≤ 9 := h.1.lb
  have lc : rd M 5 0 = rd N 136 1 := h.1.lc
  have hn : (rd N 136 0).toInt = (nb 5 M : Int) := h.1.pb.bn
  unfold mX6_flatLength mX7_flatLength
  refine R2.br (fun N1 e1 => ?_)
  have r1 : ∀ j, rd N1 136 j = rd N 136 j := fun j => by rw [e1]; exact rd_wk (by decide)
  obtain ⟨s1, s2, s3⟩ := h.1.sh
  rw [lc, show rd N1 (135 + 1) ((1 : Int32)).toNatClampNeg = rd N 136 1 from r1 1]
  refine R2.kr (fun _ => R2.il (fun c => R2.ir (fun _ => R2.ok rfl) (fun c2 => absurd c c2)) (fun c => R2.ir (fun c2 => absurd c2 c) (fun _ => R2.kr (fun _ => ?_))))
  refine R2.cc (sum_R (w := (rd N 136 1).toInt.toNat) (by omega) (fun j hj => by rw [r1]; exact h.1.leg j (by show (j : Int) < (rd N 136 1).toInt; omega)) (o_of lb.1)) (fun r3 q3 e3 => ?_)
  subst e3
  refine R2.cl (pc_bends (pr_9 h.1)) (fun r6 e6 => R2.kr (fun _ => ?_))
  refine R2.cc (ded_R (N := N1) (by rw [r1]; exact s1) (by rw [r1]; exact s2) (by rw [r1]; exact s3) (by rw [r1, r1]; exact sheet_b hI)) (fun r9 q9 e9 => ?_)
  subst e9
  have e0 : r6 = rd N1 (135 + 1) ((0 : Int32)).toNatClampNeg := by
    rw [show rd N1 (135 + 1) ((0 : Int32)).toNatClampNeg = rd N 136 0 from r1 0, e6, i_eq, hn, t_of (by have := nb8 (pr_9 h.1); omega)]
  rw [← e0]
  exact R2.kl (fun _ => R2.kl (fun _ => R2.kr (fun _ => R2.kr (fun _ => R2.ok rfl))))
theorem an_linePlace (h : SS M N) (hI : MI N) : R2 (mX6_linePlace 0 x1 M) (mX7_linePlace 135 x1 N) (XR (fun _ => 1)) := by
  have lb : 0 ≤ (rd N 136 1).toInt ∧ (rd N 136 1).toInt ≤ 9 := h.1.lb
  have lc : rd M 5 0 = rd N 136 1 := h.1.lc
  have hn : (rd N 136 0).toInt = (nb 5 M : Int) := h.1.pb.bn
  have n8 := nb8 (pr_9 h.1)
  obtain ⟨s1, s2, s3⟩ := h.1.sh
  unfold mX6_linePlace mX7_linePlace
  refine R2.cr (pc_isBend hn n8) (fun r2 p2 => R2.xl (pc_reqBend h.1 (n := nb 5 M) hn) (fun M1 u q => ?_) (fun M1 u q => ?_))
  rotate_left
  · rcases q with ⟨e, _⟩ | ⟨e, q2⟩
    · exact absurd (congrArg Prod.snd e) (by intro z; cases z)
    cases e
    refine (R2.bad1 (num := fun _ => 1) ?_ rfl h).mono (fun p q z => z.1)
    rcases p2 with ⟨_, z2⟩ | ⟨z2, _⟩
    · exact absurd z2 q2
    · exact z2
  rcases q with ⟨e, q2⟩ | ⟨e, _⟩
  rotate_left
  · exact absurd (congrArg Prod.snd e) (by intro z; cases z)
  cases e
  have g2 : ¬ r2 = 0 := by
    rcases p2 with ⟨z2, _⟩ | ⟨_, z2⟩
    · rw [z2]; decide
    · exact absurd q2 z2
  refine R2.ok1 g2 ?_
  have r1 : ∀ j, rd (wr N 135 5 0) 136 j = rd N 136 j := fun j => rd_wk (by decide)
  obtain ⟨b, hb, eb⟩ : ∃ b : Nat, b < nb 5 M ∧ x1 = Int32.ofNat b := ⟨x1.toInt.toNat, by omega, o_of q2.1⟩
  subst eb
  have hlen : nb 5 M = ((rd N 136 1).toInt - 1).toNat := by unfold nb; rw [lc]
  refine R2.cc (sum_R (N := wr N 135 5 0) (w := b + 1) (by omega) (fun j hj => by rw [r1]; exact h.1.leg j (by show (j : Int) < (rd N 136 1).toInt; omega)) (o_inc (by omega))) (fun r6 q6 e6 => ?_)
  subst e6
  refine R2.kl (fun _ => R2.kr (fun _ => ?_))
  refine R2.cc (ded_R (N := wr N 135 5 0) (by rw [r1]; exact s1) (by rw [r1]; exact s2) (by rw [r1]; exact s3) (by rw [r1, r1]; exact sheet_b hI)) (fun r9 q9 e9 => ?_)
  subst e9
  exact R2.kl (fun _ => R2.kl (fun _ => R2.kr (fun _ => R2.kr (fun _ => R2.ok (XR.inl rd_we rfl)))))
theorem rat_R (h1 : rd M 5 3 = rd N 136 36) (h2 : rd M 5 4 = rd N 136 37) (hb : (1 ≤ (rd N 136 36).toInt ∧ (rd N 136 36).toInt ≤ 60)) : R2 (mX1_ratioOfSheet 5 M) (mX7_ratioNow 135 N) (fun r q => r = q) := by
  unfold mX1_ratioOfSheet mX7_ratioNow
  rw [h1, h2]
  refine R2.il (fun c => ?_) (fun _ => R2.kl (fun _ => R2.kl (fun _ => R2.kr (fun _ => R2.kr (fun _ => R2.kr (fun _ => R2.kr (fun _ => R2.ok rfl)))))))
  have c := i_le.mp c
  rw [show ((0 : Int32)).toInt = 0 from rfl] at c
  omega
theorem an_ratio (h : SS M N) (hI : MI N) : R2 (mX6_ratio 0 M) (mX7_ratio 135 N) (fun r q => r = q.2) := by
  unfold mX6_ratio mX7_ratio
  refine R2.br (fun N1 e1 => ?_)
  have r1 : ∀ j, rd N1 136 j = rd N 136 j := fun j => by rw [e1]; exact rd_wk (by decide)
  obtain ⟨s1, s2, s3⟩ := h.1.sh
  exact R2.cc (rat_R (N := N1) (by rw [r1]; exact s1) (by rw [r1]; exact s2) (by rw [r1]; exact (sheet_b hI).1)) (fun r q e => R2.ok e)
end DB
