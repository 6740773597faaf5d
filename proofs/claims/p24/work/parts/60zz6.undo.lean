/-! undo, by both -/
section UD
variable {M N N0 : Mem}
abbrev SUc (c _ : Nat) : Prop := c = 21 ∨ (5 ≤ c ∧ c < 13)
abbrev SUr (k j : Nat) : Prop := k = 136 ∨ (k = 135 ∧ (j = 4 ∨ j = 5))
theorem und_l {e : Nat} (he : e < 10) : ∀ (n i : Nat) (N : Mem), i ≤ 86 → rd N 135 4 = Int32.ofNat e → KS SUr N0 N → (∀ p, p < i → rd N 136 p = rd N0 139 (86 * e + p)) → Pc (mX7_undo_l26 135 n (Int32.ofNat i) N) (fun q => KS SUr N0 q.1 ∧ rd q.1 135 4 = Int32.ofNat e ∧ (∀ p, p < 86 → rd q.1 136 p = rd N0 139 (86 * e + p)) ∧ q.2 = Int32.ofNat e ∧ rd q.1 135 5 = rd N 135 5) := by
  intro n
  induction n with
  | zero => intro i N _ _ _ _; exact Pc.n
  | succ n IH =>
    intro i N hi h4 hk hz
    show Pc (mX7_undo_b26 135 (mX7_undo_l26 135 n) (Int32.ofNat i) N) _
    unfold mX7_undo_b26
    have ti : (Int32.ofNat i).toInt = (i : Int) := t_of (by omega)
    have te : (Int32.ofNat e).toInt = (e : Int) := t_of (by omega)
    have ci := c_of (a := i) (by omega)
    rw [h4, ci]
    refine Pc.i (fun c => Pc.ok ⟨hk, h4, fun p hp => ?_, rfl, rfl⟩) (fun c => Pc.k (fun _ => Pc.k (fun _ => Pc.b (fun M8 e8 => Pc.b (fun y ey => ?_)))))
    · have c := i_le.mp c
      rw [ti, show ((86 : Int32)).toInt = 86 from rfl] at c
      exact hz p (by omega)
    · have c := i_nle c
      rw [ti, show ((86 : Int32)).toInt = 86 from rfl] at c
      have em := i_mulc (a := (86 : Int32)) (b := Int32.ofNat e) (c := 86) rfl (by omega) (by omega)
      have ea := i_add (a := (86 : Int32) * Int32.ofNat e) (b := Int32.ofNat i) (by omega) (by omega)
      rw [i_clamp, show ((86 : Int32) * Int32.ofNat e + Int32.ofNat i).toInt.toNat = 86 * e + i by omega] at e8
      have e8 : M8 = wr N 136 i (rd N 139 (86 * e + i)) := e8
      have ey : y = Int32.ofNat (i + 1) := ey.trans (Int32.ofNat_add i 1).symm
      rw [ey]
      refine Pc.mono (IH (i + 1) M8 (by omega) (by rw [e8, rd_wk (by decide)]; exact h4) (by rw [e8]; exact hk.wr (Or.inl rfl)) (fun p hp => ?_)) (fun q r => ⟨r.1, r.2.1, r.2.2.1, r.2.2.2.1, ?_⟩)
      · rw [e8]
        by_cases q : p = i
        · subst q; rw [rd_we]; exact hk 139 _ (by unfold SUr; omega)
        · rw [rd_wj q]; exact hz p (by omega)
      · rw [r.2.2.2.2, e8, rd_wk (by decide)]
theorem undo_R (hH : HRel M N) (hP : PR 5 M (row 136 N)) : R2 (mX6_undo 0 M) (mX7_undo 135 N) (fun p q => p.2 = q.2 ∧ rd q.1 135 5 = 0 ∧ HRel p.1 q.1 ∧ PR 5 p.1 (row 136 q.1) ∧ KS SUc M p.1 ∧ KS SUr N q.1) := by
  obtain ⟨e, o, h4, h2, h1, he, ho, hr⟩ := hH
  unfold mX6_undo mX0_takeBack mX7_undo
  simp only [cal_ite, cal_cap, cal_cal, cal_chk, cal_some, cal_bnd]
  refine R2.br (fun N1 e1 => ?_)
  have k1 : KS SUr N N1 := by rw [e1]; exact KS.rf.wr (Or.inr ⟨rfl, Or.inr rfl⟩)
  have n4 : rd N1 135 4 = Int32.ofNat e := by rw [e1, rd_wj (by decide)]; exact h4
  have n5 : rd N1 135 5 = 0 := by rw [e1, rd_we]
  have q139 : ∀ j, rd N1 139 j = rd N 139 j := fun j => by rw [e1, rd_wk (by decide)]
  rw [n4, h2]
  refine R2.il (fun c => R2.ir (fun _ => ?_) (fun z => absurd c z)) (fun c => R2.ir (fun z => absurd z c) (fun _ => ?_))
  · refine R2.il (fun _ => R2.ok ⟨rfl, n5, ⟨e, o, n4, h2, h1, he, ho, fun i hi => ?_⟩, ?_, KS.rf, k1⟩) (fun z => absurd trivial z)
    · exact (hr i hi).cong (fun p _ => q139 _)
    · exact hP.cong (fun p _ => by show rd N1 136 p = rd N 136 p; rw [e1, rd_wk (by decide)])
  · have e0 : 0 < e := by
      apply Decidable.byContradiction
      intro z
      apply c
      rw [show e = 0 by omega]; rfl
    have em : Int32.ofNat e - (1 : Int32) = Int32.ofNat (e - 1) := by
      rw [i_eq, i_sub (by rw [t_of (by omega), show ((1 : Int32)).toInt = 1 from rfl]; omega) (by rw [t_of (by omega), show ((1 : Int32)).toInt = 1 from rfl]; omega), t_of (by omega), t_of (by omega), show ((1 : Int32)).toInt = 1 from rfl]; omega
    rw [em]
    refine R2.bl (fun M2 e2 => ?_)
    have c2 : rd M2 21 2 = Int32.ofNat (e - 1) := by rw [e2, rd_we]
    have c1 : rd M2 21 1 = Int32.ofNat o := by rw [e2, rd_wj (by decide)]; exact h1
    have ea : Int32.ofNat o + Int32.ofNat (e - 1) = Int32.ofNat (o + (e - 1)) := (Int32.ofNat_add o (e - 1)).symm
    rw [c1, c2, ea, f_mod10 (o + (e - 1)) (by omega), c_of (a := (o + (e - 1)) % 10) (by omega)]
    have hm : (o + (e - 1)) % 10 < 10 := Nat.mod_lt _ (by decide)
    refine R2.kl (fun _ => R2.ml (pc_copyFrom (k := 5) (k' := 21 + 1 + 1 + 8 * ((o + (e - 1)) % 10)) (by omega)) (fun M7 _ p => ?_))
    obtain ⟨q0, q1, q2, q3, q4⟩ := p
    have ek : 21 + 1 + 1 + 8 * ((o + (e - 1)) % 10) = 23 + 8 * ((o + (e - 1)) % 10) := by omega
    have m2 : ∀ c j, c ≠ 21 → rd M2 c j = rd M c j := fun c j hc => by rw [e2]; exact rd_wk hc
    have m7 : ∀ c j, ¬ (5 ≤ c ∧ c < 13) → rd M7 c j = rd M2 c j := fun c j hc => q4 c j (by show ¬ (5 ≤ c ∧ c < 5 + 8); omega)
    have hrow : PR (21 + 1 + 1 + 8 * ((o + (e - 1)) % 10)) M2 (fun j => rd N 139 (86 * (e - 1) + j)) := by
      rw [ek]
      exact (hr (e - 1) (by omega)).mem (fun c j a1 a2 => m2 c j (by omega))
    have hP7 : PR 5 M7 (fun j => rd N 139 (86 * (e - 1) + j)) := hrow.copy q0 q1 q2 q3
    refine R2.il (fun z => absurd z (by simp)) (fun _ => R2.br (fun N4 e4 => ?_))
    have k4 : KS SUr N N4 := k1.trans (by rw [e4]; exact KS.rf.wr (Or.inr ⟨rfl, Or.inl rfl⟩))
    have d4 : rd N4 135 4 = Int32.ofNat (e - 1) := by rw [e4, rd_we]
    have d5 : rd N4 135 5 = 0 := by rw [e4, rd_wj (by decide)]; exact n5
    intro p q hp hq
    cases hp
    obtain ⟨kN, r4, rw', r2, r5⟩ := und_l (N0 := N) (e := e - 1) (by omega) 5000 0 N4 (by omega) d4 k4 (fun p hp => by omega) _ hq
    have kN : KS SUr N q.1 := kN
    refine ⟨?_, ?_, ⟨e - 1, o, r4, ?_, ?_, by omega, ho, fun i hi => ?_⟩, ?_, ?_, kN⟩
    · show rd M7 21 2 = q.2
      rw [r2, m7 21 2 (by omega), c2]
    · rw [r5]; exact d5
    · show rd M7 21 2 = _
      rw [m7 21 2 (by omega), c2]
    · show rd M7 21 1 = _
      rw [m7 21 1 (by omega), c1]
    · refine PR.cong ((hr i (by omega)).mem (fun c j a1 a2 => ?_)) (fun p _ => kN 139 _ (by unfold SUr; omega))
      show rd M7 c j = _
      rw [m7 c j (by omega), m2 c j (by omega)]
    · exact hP7.cong (fun p hp => rw' p hp)
    · intro c j z
      show rd M7 c j = _
      have z1 : c ≠ 21 := fun y => z (Or.inl y)
      have z2 : ¬ (5 ≤ c ∧ c < 13) := fun y => z (Or.inr y)
      rw [m7 c j z2, m2 c j z1]
end UD
