/-! a token, read by both -/
def BR (x y : Int32) : Prop := (x = y ∧ 0 ≤ y.toInt ∧ y.toInt ≤ 127) ∨ (x.toInt < 0 ∧ 128 ≤ y.toInt)
def RT (M N : Mem)  : Prop := (rd M 2 3 = rd N 135 10) ∧ ((rd N 135 10).toInt ≤ 600) ∧ (∀ i : Nat, (i : Int) < (rd N 135 10).toInt → BR (rd M 1 i) (rd N 140 i))
theorem RT.len {M N : Mem}  (h : RT M N) : rd M 2 3 = rd N 135 10 := h.1
theorem RT.top {M N : Mem}  (h : RT M N) : (rd N 135 10).toInt ≤ 600 := h.2.1
theorem RT.byt {M N : Mem}  (h : RT M N) : ∀ i : Nat, (i : Int) < (rd N 135 10).toInt → BR (rd M 1 i) (rd N 140 i) := h.2.2
/-- the token that both read last -/
def TT (M N : Mem)  : Prop := (RT M N) ∧ (rd M 2 4 = rd N 135 11) ∧ (rd M 2 5 = rd N 135 12) ∧ (rd M 2 6 = rd N 135 13) ∧ (rd N 135 13 = 3 → rd M 2 7 = rd N 135 14) ∧ (0 ≤ (rd N 135 11).toInt) ∧ ((rd N 135 11).toInt ≤ (rd N 135 12).toInt) ∧ ((rd N 135 12).toInt ≤ (rd N 135 10).toInt) ∧ (¬ rd N 135 13 = 0 → (rd N 135 11).toInt < (rd N 135 10).toInt)
theorem TT.rt {M N : Mem}  (h : TT M N) : RT M N := h.1
theorem TT.st {M N : Mem}  (h : TT M N) : rd M 2 4 = rd N 135 11 := h.2.1
theorem TT.nx {M N : Mem}  (h : TT M N) : rd M 2 5 = rd N 135 12 := h.2.2.1
theorem TT.tk {M N : Mem}  (h : TT M N) : rd M 2 6 = rd N 135 13 := h.2.2.2.1
theorem TT.vl {M N : Mem}  (h : TT M N) : rd N 135 13 = 3 → rd M 2 7 = rd N 135 14 := h.2.2.2.2.1
theorem TT.b0 {M N : Mem}  (h : TT M N) : 0 ≤ (rd N 135 11).toInt := h.2.2.2.2.2.1
theorem TT.b1 {M N : Mem}  (h : TT M N) : (rd N 135 11).toInt ≤ (rd N 135 12).toInt := h.2.2.2.2.2.2.1
theorem TT.b2 {M N : Mem}  (h : TT M N) : (rd N 135 12).toInt ≤ (rd N 135 10).toInt := h.2.2.2.2.2.2.2.1
theorem TT.en {M N : Mem}  (h : TT M N) : ¬ rd N 135 13 = 0 → (rd N 135 11).toInt < (rd N 135 10).toInt := h.2.2.2.2.2.2.2.2
section TK
variable {M N : Mem} {x y v i : Int32} {k j : Nat}
theorem RT.lw (h : RT M N) (h1 : k ≠ 1 ∧ (k = 2 → j ≠ 3)) : RT (wr M k j v) N := by
  have e : ∀ i, rd (wr M k j v) 1 i = rd M 1 i := fun i => rd_wk (fun e => h1.1 e.symm)
  have e3 : rd (wr M k j v) 2 3 = rd M 2 3 := by
    rw [rd_eq, if_neg]; intro q; exact h1.2 q.1.symm q.2.symm
  exact ⟨e3.trans h.len, h.top, fun i hi => by rw [e]; exact h.byt i hi⟩
theorem RT.rw (h : RT M N) (h1 : k ≠ 140 ∧ (k = 135 → j ≠ 10)) : RT M (wr N k j v) := by
  have e : ∀ i, rd (wr N k j v) 140 i = rd N 140 i := fun i => rd_wk (fun e => h1.1 e.symm)
  have e3 : rd (wr N k j v) 135 10 = rd N 135 10 := by
    rw [rd_eq, if_neg]; intro q; exact h1.2 q.1.symm q.2.symm
  exact ⟨h.len.trans e3.symm, by rw [e3]; exact h.top, fun i hi => by rw [e]; exact h.byt i (by rw [e3] at hi; exact hi)⟩
theorem pc_spc4 : Pc (mX4_isSpace x M) (fun r => r = 0 ↔ ¬ (x = 32 ∨ x = 10)) := by
  unfold mX4_isSpace mX4_isSpace_b12
  refine Pc.i (fun c => Pc.ok ⟨fun e => absurd e (by decide), fun e => absurd (Or.inl c) e⟩) (fun c => Pc.i (fun c2 => Pc.ok ⟨fun e => absurd e (by decide), fun e => absurd (Or.inr c2) e⟩) (fun c2 => Pc.ok ⟨fun _ e => e.elim c c2, fun _ => rfl⟩))
theorem BR.let (h : BR x y) : (97 ≤ x.toInt ∧ x.toInt ≤ 122) ↔ (97 ≤ y.toInt ∧ y.toInt ≤ 122) := by
  rcases h with ⟨rfl, _⟩ | ⟨h1, h2⟩
  · exact Iff.rfl
  · constructor <;> (intro h; omega)
theorem BR.dig (h : BR x y) : (48 ≤ x.toInt ∧ x.toInt ≤ 57) ↔ (48 ≤ y.toInt ∧ y.toInt ≤ 57) := by
  rcases h with ⟨rfl, _⟩ | ⟨h1, h2⟩
  · exact Iff.rfl
  · constructor <;> (intro h; omega)
theorem BR.eq (h : BR x y) {c : Int32} (hc : 0 ≤ c.toInt ∧ c.toInt ≤ 127) : x = c ↔ y = c := by
  rcases h with ⟨rfl, _⟩ | ⟨h1, h2⟩
  · exact Iff.rfl
  · constructor <;> (intro h; subst h; omega)
theorem BR.ne1 (h : BR x y) : ¬ y = -1 := by
  intro e; subst e
  rcases h with ⟨_, h1, _⟩ | ⟨_, h1⟩ <;> exact absurd h1 (by decide)
theorem BR.same (h : BR x y) (hd : 48 ≤ y.toInt ∧ y.toInt ≤ 57) : x = y := by
  rcases h with ⟨h, _⟩ | ⟨h1, h2⟩
  · exact h
  · omega
theorem rt_b (h : RT M N) (h0 : 0 ≤ i.toInt) (h1 : i.toInt < (rd N 135 10).toInt) : BR (rd M 1 i.toNatClampNeg) (rd N 140 i.toNatClampNeg) := h.byt _ (by rw [i_clamp]; omega)
theorem i_inc (h0 : 0 ≤ i.toInt) (h1 : i.toInt < 600) : (i + 1).toInt = i.toInt + 1 := by
  rw [i_add (by rw [show ((1 : Int32)).toInt = 1 from rfl]; omega) (by rw [show ((1 : Int32)).toInt = 1 from rfl]; omega)]; rfl
/-- the end of a run of letters or digits -/
theorem tk_end {n : Int32} {c : Int32} (h : RT M N) (h5 : rd M 2 5 = rd N 135 12) (h4 : rd M 2 4 = rd N 135 11) (h7 : c = 3 → rd M 2 7 = rd N 135 14) (b0 : 0 ≤ (rd N 135 11).toInt) (b1 : (rd N 135 11).toInt ≤ (rd N 135 12).toInt) (b2 : (rd N 135 12).toInt ≤ (rd N 135 10).toInt) (bs : (rd N 135 11).toInt < (rd N 135 10).toInt) (hc : ¬ c = 1) :
    R2 (ite2 (n < ((rd M 2 5) - (rd M 2 4))) (bnd (wr M 2 6 (1 : Int32)) (fun M3 => some (M3, ()))) (bnd (wr M 2 6 c) (fun M5 => some (M5, ())))) (ite2 (((rd N 135 12) - (rd N 135 11)) ≤ n) (bnd (wr N 135 13 c) (fun M42 => some (M42, (1 : Int32)))) (bnd (wr N 135 13 (1 : Int32)) (fun M42 => some (M42, (1 : Int32))))) (fun a b => TT a.1 b.1) := by
  rw [h5, h4]
  have key : ∀ t : Int32, (t = 3 → rd M 2 7 = rd N 135 14) → TT (wr M 2 6 t) (wr N 135 13 t) := fun t ht => by
    refine ⟨(h.lw (by decide)).rw (by decide), ?_, ?_, ?_, ?_, ?_, ?_, ?_, fun _ => ?_⟩
    · rw [rd_wj (by decide), rd_wj (by decide)]; exact h4
    · rw [rd_wj (by decide), rd_wj (by decide)]; exact h5
    · rw [rd_we, rd_we]
    · rw [rd_we, rd_wj (by decide), rd_wj (by decide)]; exact ht
    · rw [rd_wj (by decide)]; exact b0
    · rw [rd_wj (by decide), rd_wj (by decide)]; exact b1
    · rw [rd_wj (by decide), rd_wj (by decide)]; exact b2
    · rw [rd_wj (by decide), rd_wj (by decide)]; exact bs
  refine R2.il (fun c1 => R2.ir (fun c2 => ?_) (fun c2 => ?_)) (fun c1 => R2.ir (fun c2 => ?_) (fun c2 => ?_))
  · have c1 := i_lt.mp c1; have c2 := i_le.mp c2; exfalso; omega
  · exact R2.bl (fun a ea => R2.br (fun b eb => R2.ok (by subst ea; subst eb; exact key 1 (fun e => absurd e (by decide)))))
  · exact R2.bl (fun a ea => R2.br (fun b eb => R2.ok (by subst ea; subst eb; exact key c h7)))
  · have c1 := i_nlt c1; have c2 := i_nle c2; exfalso; omega
end TK

