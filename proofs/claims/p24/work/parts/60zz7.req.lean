/-! what the parameters must be: both tell it alike -/
section RQ
variable {M N : Mem} {x y z : Int32}
theorem pc_good : Pc (mX7_good 135 x N) (fun q => (x = 0 ∧ q = (wr N 135 5 1, x)) ∨ (¬ x = 0 ∧ q = (wr N 135 5 0, x))) := by
  unfold mX7_good
  exact Pc.i (fun c => Pc.b (fun M2 e => Pc.k (fun _ => Pc.ok (Or.inl ⟨c, by rw [e]⟩)))) (fun c => Pc.b (fun M2 e => Pc.k (fun _ => Pc.ok (Or.inr ⟨c, by rw [e]⟩))))
theorem pc_good2 : Pc (mX7_good_ 135 x y N) (fun q => (x = 0 ∧ q = (wr N 135 5 1, 0)) ∨ (¬ x = 0 ∧ y = 0 ∧ q = (wr N 135 5 2, 0)) ∨ (¬ x = 0 ∧ ¬ y = 0 ∧ q = (wr N 135 5 0, 1))) := by
  unfold mX7_good_ mX7_good__b18
  refine Pc.i (fun c => Pc.b (fun M3 e => Pc.i (fun d => ?_) (fun _ => Pc.ok (Or.inl ⟨c, by rw [e]⟩)))) (fun c => Pc.i (fun c2 => Pc.b (fun M3 e => Pc.i (fun d => ?_) (fun _ => Pc.ok (Or.inr (Or.inl ⟨c, c2, by rw [e]⟩))))) (fun c2 => Pc.b (fun M3 e => Pc.i (fun d => Pc.ok (Or.inr (Or.inr ⟨c, c2, by rw [e]⟩))) (fun d => ?_))))
  · rw [e, rd_we] at d; exact absurd d (by decide)
  · rw [e, rd_we] at d; exact absurd d (by decide)
  · rw [e, rd_we] at d; exact absurd rfl d
theorem pc_good3 : Pc (mX7_good__ 135 x y z N) (fun q => (x = 0 ∧ q = (wr N 135 5 1, 0)) ∨ (¬ x = 0 ∧ y = 0 ∧ q = (wr N 135 5 2, 0)) ∨ (¬ x = 0 ∧ ¬ y = 0 ∧ z = 0 ∧ q = (wr N 135 5 3, 0)) ∨ (¬ x = 0 ∧ ¬ y = 0 ∧ ¬ z = 0 ∧ q = (wr N 135 5 0, 1))) := by
  unfold mX7_good__ mX7_good___b26
  refine Pc.i (fun c => Pc.b (fun M3 e => Pc.i (fun d => ?_) (fun _ => Pc.ok (Or.inl ⟨c, by rw [e]⟩)))) (fun c => Pc.i (fun c2 => Pc.b (fun M3 e => Pc.i (fun d => ?_) (fun _ => Pc.ok (Or.inr (Or.inl ⟨c, c2, by rw [e]⟩))))) (fun c2 => Pc.i (fun c3 => Pc.b (fun M3 e => Pc.i (fun d => ?_) (fun _ => Pc.ok (Or.inr (Or.inr (Or.inl ⟨c, c2, c3, by rw [e]⟩)))))) (fun c3 => Pc.b (fun M3 e => Pc.i (fun d => Pc.ok (Or.inr (Or.inr (Or.inr ⟨c, c2, c3, by rw [e]⟩)))) (fun d => ?_)))))
  · rw [e, rd_we] at d; exact absurd d (by decide)
  · rw [e, rd_we] at d; exact absurd d (by decide)
  · rw [e, rd_we] at d; exact absurd d (by decide)
  · rw [e, rd_we] at d; exact absurd rfl d
theorem pc_isBend {n : Nat} (hn : (rd N 136 0).toInt = (n : Int)) (h8 : n ≤ 8) : Pc (mX7_isBend 135 x N) (fun r => (r = 1 ∧ 0 ≤ x.toInt ∧ x.toInt < (n : Int)) ∨ (r = 0 ∧ ¬ (0 ≤ x.toInt ∧ x.toInt < (n : Int)))) := by
  unfold mX7_isBend
  have n1 : ((1 : Int32)).toInt = 1 := rfl
  have e1 : (rd N (135 + 1) ((0 : Int32)).toNatClampNeg - 1).toInt = (n : Int) - 1 := by
    show (rd N 136 0 - 1).toInt = _
    rw [i_sub (by omega) (by omega)]; omega
  refine Pc.k (fun _ => Pc.c (pc_btw (Int32.toInt_toInt64 _) (b := 0) (by decide) (Int32.toInt_toInt64 _)) (fun r p => Pc.k (fun _ => Pc.ok ?_)))
  rw [e1] at p
  rcases p with ⟨e, p⟩ | ⟨e, p⟩
  · exact Or.inl ⟨e, by omega⟩
  · exact Or.inr ⟨e, by omega⟩
theorem pc_isLeg {n : Nat} (hn : (rd N 136 1).toInt = (n : Int)) (h8 : n ≤ 9) : Pc (mX7_isLeg 135 x N) (fun r => (r = 1 ∧ 0 ≤ x.toInt ∧ x.toInt < (n : Int)) ∨ (r = 0 ∧ ¬ (0 ≤ x.toInt ∧ x.toInt < (n : Int)))) := by
  unfold mX7_isLeg
  have n1 : ((1 : Int32)).toInt = 1 := rfl
  have e1 : (rd N (135 + 1) ((1 : Int32)).toNatClampNeg - 1).toInt = (n : Int) - 1 := by
    show (rd N 136 1 - 1).toInt = _
    rw [i_sub (by omega) (by omega)]; omega
  refine Pc.k (fun _ => Pc.c (pc_btw (Int32.toInt_toInt64 _) (b := 0) (by decide) (Int32.toInt_toInt64 _)) (fun r p => Pc.k (fun _ => Pc.ok ?_)))
  rw [e1] at p
  rcases p with ⟨e, p⟩ | ⟨e, p⟩
  · exact Or.inl ⟨e, by omega⟩
  · exact Or.inr ⟨e, by omega⟩
theorem pc_isSide : Pc (mX7_isSide x N) (fun r => (r = 1 ∧ 0 ≤ x.toInt ∧ x.toInt ≤ 1) ∨ (r = 0 ∧ ¬ (0 ≤ x.toInt ∧ x.toInt ≤ 1))) := by
  unfold mX7_isSide
  exact Pc.c (pc_btw (Int32.toInt_toInt64 _) (b := 0) (by decide) (c := 1) (by decide)) (fun r p => Pc.k (fun _ => Pc.ok p))
theorem pc_reqBend {n : Nat} {f : Nat → Int32} (hP : PR 5 M f) (hn : (f 0).toInt = (n : Int)) : Pc (mX6_requireBend 0 x M) (fun q => (q = (M, Sum.inl ()) ∧ 0 ≤ x.toInt ∧ x.toInt < (n : Int)) ∨ (q = (M, Sum.inr 1) ∧ ¬ (0 ≤ x.toInt ∧ x.toInt < (n : Int)))) := by
  unfold mX6_requireBend mX6_requireBend_b21
  have n8 := hP.n8
  have lb := hP.lb
  have nn := hP.nn
  have n1 : ((1 : Int32)).toInt = 1 := rfl
  refine Pc.i (fun c => Pc.ok (Or.inr ⟨rfl, ?_⟩)) (fun c => Pc.c pc_bc (fun r3 p3 => ?_))
  · have c := i_lt.mp c
    rw [show ((0 : Int32)).toInt = 0 from rfl] at c
    omega
  have c : 0 ≤ x.toInt := i_nlt c
  have e3 : r3.toInt = (n : Int) := by
    rw [hP.lc] at p3
    rcases p3 with ⟨q, e⟩ | ⟨q, e⟩
    · rw [if_pos (by omega)] at nn
      rw [e, ← hn, nn]; rfl
    · rw [if_neg (by omega)] at nn
      rw [e, i_sub (by omega) (by omega), n1]; omega
  refine Pc.i (fun c2 => Pc.ok (Or.inr ⟨rfl, ?_⟩)) (fun c2 => Pc.i (fun c3 => Pc.ok (Or.inl ⟨rfl, c, ?_⟩)) (fun c3 => ?_))
  · have c2 := i_le.mp c2; omega
  · have c2 := i_nle c2; omega
  · have c2 := i_nle c2
    have c3 := i_nlt c3
    rw [show ((8 : Int32)).toInt = 8 from rfl] at c3
    exfalso; omega
theorem pc_reqLeg {n : Nat} {f : Nat → Int32} (hP : PR 5 M f) (hn : (f 1).toInt = (n : Int)) : Pc (mX6_requireLeg 0 x M) (fun q => (q = (M, Sum.inl ()) ∧ 0 ≤ x.toInt ∧ x.toInt < (n : Int)) ∨ (q = (M, Sum.inr 1) ∧ ¬ (0 ≤ x.toInt ∧ x.toInt < (n : Int)))) := by
  unfold mX6_requireLeg mX6_requireLeg_b21
  have lb := hP.lb
  rw [hP.lc]
  refine Pc.i (fun c => Pc.ok (Or.inr ⟨rfl, ?_⟩)) (fun c => Pc.i (fun c2 => Pc.ok (Or.inr ⟨rfl, ?_⟩)) (fun c2 => Pc.i (fun c3 => Pc.ok (Or.inl ⟨rfl, i_nlt c, ?_⟩)) (fun c3 => ?_)))
  · have c := i_lt.mp c
    rw [show ((0 : Int32)).toInt = 0 from rfl] at c
    omega
  · have c2 := i_le.mp c2; omega
  · have c2 := i_nle c2; omega
  · have c2 := i_nle c2
    have c3 := i_nlt c3
    rw [show ((9 : Int32)).toInt = 9 from rfl] at c3
    exfalso; omega
theorem pc_reqChoice {n : Int} (hy : y.toInt = n) : Pc (mX6_requireChoice x y M) (fun q => (q = (M, Sum.inl ()) ∧ 0 ≤ x.toInt ∧ x.toInt ≤ n) ∨ (q = (M, Sum.inr 0) ∧ ¬ (0 ≤ x.toInt ∧ x.toInt ≤ n))) := by
  unfold mX6_requireChoice mX6_requireChoice_b9
  refine Pc.i (fun c => Pc.ok (Or.inr ⟨rfl, ?_⟩)) (fun c => Pc.i (fun c2 => Pc.ok (Or.inl ⟨rfl, i_nlt c, ?_⟩)) (fun c2 => Pc.ok (Or.inr ⟨rfl, ?_⟩)))
  · have c := i_lt.mp c
    rw [show ((0 : Int32)).toInt = 0 from rfl] at c
    omega
  · have c2 := i_le.mp c2; omega
  · have c2 := i_nle c2; omega
theorem pc_reqFlat : Pc (mX6_requireFlat 0 M) (fun q => (q = (M, Sum.inl ()) ∧ (rd M 5 14).toInt ≤ 0) ∨ (q = (M, Sum.inr 2) ∧ 0 < (rd M 5 14).toInt)) := by
  unfold mX6_requireFlat
  refine Pc.i (fun c => Pc.ok (Or.inl ⟨rfl, ?_⟩)) (fun c => Pc.ok (Or.inr ⟨rfl, ?_⟩))
  · have c := i_le.mp c; exact c
  · have c := i_nle c; exact c
end RQ
