/-! the top of the free side, all legs that hit: alike -/
section TP
variable {M N : Mem} {k k1 b s : Nat}
theorem top_l (h : SH k b s M N) (hb : b < 100) (hs : s < 2) (h9 : (rd N 136 1).toInt ≤ 9) : ∀ (n m j : Nat) (acc : Int32), j ≤ 9 → R2 (mX2_topOfFreeSide_l4 k M n acc (Int32.ofNat j)) (mX7_top_l36 135 m (Int32.ofNat b) (Int32.ofNat s) acc (Int32.ofNat j) N) (fun p q => p = q.2 ∧ q.1 = N) := by
  intro n
  induction n with
  | zero => intro m j acc _; exact R2.nl
  | succ n IH =>
    intro m j acc hj
    cases m with
    | zero => exact R2.nr
    | succ m =>
      show R2 (mX2_topOfFreeSide_b4 k M (mX2_topOfFreeSide_l4 k M n) acc (Int32.ofNat j)) (mX7_top_b36 135 (mX7_top_l36 135 m) (Int32.ofNat b) (Int32.ofNat s) acc (Int32.ofNat j) N) _
      unfold mX2_topOfFreeSide_b4 mX7_top_b36 mX2_topOfFreeSide_b37 mX7_top_b73
      have tj : (Int32.ofNat j).toInt = (j : Int) := t_of (by omega)
      have cj := c_of (a := j) (by omega)
      rw [h.2.1, cj]
      refine R2.kr (fun _ => R2.il (fun c => R2.ir (fun _ => R2.ok ⟨rfl, rfl⟩) (fun z => absurd c z)) (fun c => R2.ir (fun z => absurd z c) (fun _ => R2.il (fun c9 => ?_) (fun _ => ?_))))
      · have c9 := i_le.mp c9
        have c : (Int32.ofNat j).toInt < (rd N 136 1).toInt := i_nle c
        rw [tj, show ((9 : Int32)).toInt = 9 from rfl] at c9
        exfalso; omega
      have c : (Int32.ofNat j).toInt < (rd N 136 1).toInt := i_nle c
      rw [tj] at c
      have nxt : ∀ (acc' : Int32), R2 (bnd (Int32.ofNat j + (1 : Int32)) (fun x2_38 => mX2_topOfFreeSide_l4 k M n acc' x2_38)) (bnd (Int32.ofNat j + (1 : Int32)) (fun x4_44 => mX7_top_l36 135 m (Int32.ofNat b) (Int32.ofNat s) acc' x4_44 N)) (fun p q => p = q.2 ∧ q.1 = N) := by
        intro acc'
        refine R2.bl (fun x ex => R2.br (fun y ey => ?_))
        rw [ex, ey]
        have e := Int32.ofNat_add j 1
        rw [show Int32.ofNat j + (1 : Int32) = Int32.ofNat (j + 1) from e.symm]
        exact IH m (j + 1) acc' (by omega)
      refine R2.cl (pc_clC h c h9) (fun r p => R2.cr (pc_clR (b := b) (s := s) (N := N) (j := j) (by omega) hb hs) (fun r' p' => ?_))
      have e : r = r' := by
        rcases p with ⟨e, q⟩ | ⟨e, q⟩ <;> rcases p' with ⟨e', q'⟩ | ⟨e', q'⟩
        · rw [e, e']
        · exact absurd q q'
        · exact absurd q' q
        · rw [e, e']
      subst e
      refine R2.il (fun c0 => R2.ir (fun _ => R2.kl (fun _ => R2.bl (fun v ev => R2.kr (fun _ => ?_)))) (fun z => absurd c0 z)) (fun c0 => R2.ir (fun z => absurd z c0) (fun _ => nxt acc))
      have el : rd M (k + 2) j = rd N (135 + 9) j := (h.1 j c).2.1
      rw [ev, el]
      exact nxt _
theorem top_R (h : SH k b s M N) (hb : b < 100) (hs : s < 2) (h9 : (rd N 136 1).toInt ≤ 9) : R2 (mX2_topOfFreeSide k M) (mX7_top_l36 135 5000 (Int32.ofNat b) (Int32.ofNat s) (0 : Int32) (0 : Int32) N) (fun p q => p = q.2 ∧ q.1 = N) := by
  unfold mX2_topOfFreeSide
  exact top_l h hb hs h9 5000 5000 0 0 (by omega)
theorem hits_R (h : SH k b s M N) (hb : b < 100) (hs : s < 2) (h0 : 0 ≤ (rd N 136 1).toInt) (h9 : (rd N 136 1).toInt ≤ 9) (ht : ∀ j, j < 10 → rd M (k1 + 2) j = rd N 136 (39 + j)) : R2 (mX2_legsHitting k k1 M) (mX7_hittingLaid 135 (Int32.ofNat b) (Int32.ofNat s) 1 1 N) (fun p q => p = q) := by
  intro p q hp hq
  obtain ⟨m, em, hm, bm⟩ := pc_hitC h h0 h9 ht _ hp
  obtain ⟨m', em', hm', bm'⟩ := pc_hitR (b := b) (s := s) (c := 1) (fr := 1) hb hs h0 h9 _ hq
  rw [em, em']
  congr 1
  apply Nat.eq_of_testBit_eq
  intro i
  by_cases hi : i < (rd N 136 1).toInt.toNat
  · have e : CB N b s i ↔ RB N b s 1 1 i := by
      unfold CB RB
      constructor
      · intro z
        by_cases c : clm b s i
        · rcases z with z | z
          · exact Or.inl ⟨c, by decide, z⟩
          · exact absurd c z.1
        · refine Or.inr ⟨c, by decide, ?_⟩
          rcases z with z | z
          · exact Or.inl z
          · exact Or.inr z.2
      · rintro (⟨_, _, z⟩ | ⟨c, _, z | z⟩)
        · exact Or.inl z
        · exact Or.inl z
        · exact Or.inr ⟨c, z⟩
    have := (bm i hi).trans (e.trans (bm' i hi).symm)
    cases e1 : m.testBit i <;> cases e2 : m'.testBit i <;> simp_all
  · have lt : ∀ x, x < 2 ^ (rd N 136 1).toInt.toNat → x.testBit i = false := fun x hx => Nat.testBit_lt_two_pow (Nat.lt_of_lt_of_le hx (Nat.pow_le_pow_right (by decide) (by omega)))
    rw [lt m hm, lt m' hm']
end TP
