/-! unfold, by both -/
section UF
variable {M N N0 : Mem}
theorem unf_l {x : Int32} : ∀ (n i : Nat) (N : Mem), i ≤ 86 → KS (fun k j => k = 136 ∧ 54 ≤ j) N0 N → 54 ≤ i → Pc (mX7_unfold_l36 135 n x (Int32.ofNat i) N) (fun q => KS (fun k j => k = 136 ∧ 54 ≤ j) N0 q.1 ∧ q.2 = x) := by
  intro n
  induction n with
  | zero => intro i N _ _ _; exact Pc.n
  | succ n IH =>
    intro i N hi hk h54
    show Pc (mX7_unfold_b36 135 (mX7_unfold_l36 135 n) x (Int32.ofNat i) N) _
    unfold mX7_unfold_b36
    have ti : (Int32.ofNat i).toInt = (i : Int) := t_of (by omega)
    have ci := c_of (a := i) (by omega)
    rw [ci]
    refine Pc.i (fun c => Pc.ok ⟨hk, rfl⟩) (fun c => Pc.k (fun _ => Pc.b (fun M17 e17 => Pc.b (fun y ey => ?_))))
    have c := i_nle c
    rw [ti, show ((86 : Int32)).toInt = 86 from rfl] at c
    have ey : y = Int32.ofNat (i + 1) := ey.trans (Int32.ofNat_add i 1).symm
    rw [ey]
    exact IH (i + 1) M17 (by omega) (by rw [e17]; exact hk.wr ⟨rfl, h54⟩) (by omega)
abbrev SEc (c _ : Nat) : Prop := (5 ≤ c ∧ c < 13) ∨ c = 21 ∨ (23 ≤ c ∧ c < 103)
abbrev SEr (k j : Nat) : Prop := k = 136 ∨ k = 139 ∨ (k = 135 ∧ (j = 4 ∨ j = 5))
theorem HRel.ks {M' N' : Mem} (h : HRel M N) (hM : ∀ c j, c = 21 ∨ (23 ≤ c ∧ c < 103) → rd M' c j = rd M c j) (hN : ∀ c j, c = 139 ∨ (c = 135 ∧ j = 4) → rd N' c j = rd N c j) : HRel M' N' := by
  obtain ⟨e, o, h4, h2, h1, he, ho, hr⟩ := h
  refine ⟨e, o, ?_, ?_, ?_, he, ho, fun i hi => ?_⟩
  · rw [hN 135 4 (Or.inr ⟨rfl, rfl⟩)]; exact h4
  · rw [hM 21 2 (Or.inl rfl)]; exact h2
  · rw [hM 21 1 (Or.inl rfl)]; exact h1
  · have hm : (o + i) % 10 < 10 := Nat.mod_lt _ (by decide)
    exact ((hr i hi).mem (fun c j a1 a2 => hM c j (Or.inr ⟨by omega, by omega⟩))).cong (fun p _ => hN 139 _ (Or.inl rfl))
theorem unfold_R (hH : HRel M N) (hP : PR 5 M (row 136 N)) : R2 (mX6_unfold 0 M) (mX7_unfold 135 N) (fun p q => p.2 = q.2 ∧ rd q.1 135 5 = 0 ∧ HRel p.1 q.1 ∧ PR 5 p.1 (row 136 q.1) ∧ KS SEc M p.1 ∧ KS SEr N q.1) := by
  unfold mX6_unfold mX7_unfold mX1_dropSteps
  simp only [cal_ite, cal_cap, cal_cal, cal_chk, cal_some, cal_bnd]
  refine R2.br (fun N1 e1 => ?_)
  have k1 : KS SEr N N1 := by rw [e1]; exact KS.rf.wr (Or.inr (Or.inr ⟨rfl, Or.inr rfl⟩))
  have r1 : row 136 N1 = row 136 N := by rw [e1]; exact row_wn (by decide)
  have hH1 : HRel M N1 := hH.ks (fun _ _ _ => rfl) (fun c j z => by rw [e1, rd_eq, if_neg (by omega)])
  have n5 : rd N1 135 5 = 0 := by rw [e1, rd_we]
  refine R2.mm (rem_R hH1 (by rw [r1]; exact hP)) (fun M3 _ N5 _ r => ?_)
  obtain ⟨hH3, kM, kN⟩ := r
  have hH3 : HRel M3 N5 := hH3
  have kM : KS SHc M M3 := kM
  have kN : KS SHi N1 N5 := kN
  have hP3 : PR 5 M3 (row 136 N5) := by
    rw [row_ks kN (fun j z => by unfold SHi at z; omega), r1]
    exact hP.ks kM (fun c j a1 a2 z => by unfold SHc at z; omega)
  refine R2.bl (fun x1 ex1 => R2.bl (fun M4 e4 => R2.bl (fun M5 e5 => R2.kr (fun _ => R2.br (fun y1 ey1 => R2.kr (fun _ => R2.br (fun N10 e10 => R2.kr (fun _ => R2.br (fun N13 e13 => ?_)))))))))
  have e10 : N10 = wr N5 136 53 0 := e10
  have e13 : N13 = wr N10 136 52 0 := e13
  have exy : x1 = y1 := by
    rw [ex1, ey1]; exact hP3.ns
  intro p q hp hq
  have w := unf_l (N0 := N13) 5000 54 N13 (by omega) KS.rf (by omega) _ hq
  cases hp
  have kq : KS (fun k j => k = 136 ∧ 54 ≤ j) N13 q.1 := w.1
  have q5 : ∀ c j, ¬ (c = 136 ∧ 52 ≤ j) → rd q.1 c j = rd N5 c j := fun c j z => by
    rw [kq c j (by omega), e13, rd_eq, if_neg (by omega), e10, rd_eq, if_neg (by omega)]
  have m5 : ∀ c j, c ≠ 5 → rd M5 c j = rd M3 c j := fun c j z => by rw [e5, rd_wk z, e4, rd_wk z]
  refine ⟨?_, ?_, ?_, ?_, ?_, ?_⟩
  · show x1 = q.2
    rw [w.2]; exact exy
  · rw [q5 135 5 (by omega), kN 135 5 (by decide)]; exact n5
  · exact hH3.ks (fun c j z => m5 c j (by omega)) (fun c j z => q5 c j (by omega))
  · show PR 5 M5 _
    rw [e5, e4]
    refine hP3.drop (fun i hi => q5 136 i (by omega)) ?_ ?_ rfl rfl
    · show rd q.1 136 52 = 0
      rw [kq 136 52 (by omega), e13, rd_we]
    · show rd q.1 136 53 = 0
      rw [kq 136 53 (by omega), e13, rd_wj (by decide), e10, rd_we]
  · intro c j z
    show rd M5 c j = _
    rw [m5 c j (fun y => z (Or.inl ⟨by omega, by omega⟩))]
    exact kM c j (fun y => z (Or.inr y))
  · intro c j z
    rw [q5 c j (fun y => z (Or.inl y.1)), kN c j (fun y => z ?_)]
    · exact k1 c j z
    · rcases y with y | y
      · exact Or.inr (Or.inl y)
      · exact Or.inr (Or.inr ⟨y.1, Or.inl y.2⟩)
end UF
