/-! a token, read by both -/
def BR (x y : Int32) : Prop := (x = y ∧ 0 ≤ y.toInt ∧ y.toInt ≤ 127) ∨ (x.toInt < 0 ∧ 128 ≤ y.toInt)
def RT (M N : Mem)  : Prop := (rd M 2 3 = rd N 135 10) ∧ ((rd N 135 10).toInt ≤ 600) ∧ (∀ i : Nat, (i : Int) < (rd N 135 10).toInt → BR (rd M 1 i) (rd N 140 i))
theorem RT.len {M N : Mem}  (h : RT M N) : rd M 2 3 = rd N 135 10 := h.1
theorem RT.top {M N : Mem}  (h : RT M N) : (rd N 135 10).toInt ≤ 600 := h.2.1
theorem RT.byt {M N : Mem}  (h : RT M N) : ∀ i : Nat, (i : Int) < (rd N 135 10).toInt → BR (rd M 1 i) (rd N 140 i) := h.2.2
/-- the token that both read last -/
def TT (M N : Mem)  : Prop := (RT M N) ∧ (rd M 2 4 = rd N 135 11) ∧ (rd M 2 5 = rd N 135 12) ∧ (rd M 2 6 = rd N 135 13) ∧ (rd N 135 13 = 3 → rd M 2 7 = rd N 135 14) ∧ (0 ≤ (rd N 135 11).toInt) ∧ ((rd N 135 11).toInt ≤ (rd N 135 12).toInt) ∧ ((rd N 135 12).toInt ≤ (rd N 135 10).toInt) ∧ (¬ rd N 135 13 = 0 → (rd N 135 11).toInt < (rd N 135 10).toInt)
theorem TT.rt {M N : Mem}  (h : TT M N) : RT M N := h.1
theorem TT.st {M N : Mem}  (h : TT M N) : rd M 2 4 = rd N 135 11 := h.2.1
theorem TT.nx {M N : Mem}  (h : TT M N) : rd M 2 5 = rd N 135 12 := h.2.2.1
theorem TT.tk {M N : Mem}  (h : TT M N) : rd M 2 6 = rd N 135 13 := h.2.2.2.1
theorem TT.vl {M N : Mem}  (h : TT M N) : rd N 135 13 = 3 → rd M 2 7 = rd N 135 14 := h.2.2.2.2.1
theorem TT.b0 {M N : Mem}  (h : TT M N) : 0 ≤ (rd N 135 11).toInt := h.2.2.2.2.2.1
theorem TT.b1 {M N : Mem}  (h : TT M N) : (rd N 135 11).toInt ≤ (rd N 135 12).toInt := h.2.2.2.2.2.2.1
theorem TT.b2 {M N : Mem}  (h : TT M N) : (rd N 135 12).toInt ≤ (rd N 135 10).toInt := h.2.2.2.2.2.2.2.1
theorem TT.en {M N : Mem}  (h : TT M N) : ¬ rd N 135 13 = 0 → (rd N 135 11).toInt < (rd N 135 10).toInt := h.2.2.2.2.2.2.2.2
section TK
variable {M N : Mem} {x y v i : Int32} {k j : Nat}
theorem RT.lw (h : RT M N) (h1 : k ≠ 1 ∧ (k = 2 → j ≠ 3)) : RT (wr M k j v) N := by
  have e : ∀ i, rd (wr M k j v) 1 i = rd M 1 i := fun i => rd_wk (fun e => h1.1 e.symm)
  have e3 : rd (wr M k j v) 2 3 = rd M 2 3 := by
    rw [rd_eq, if_neg]; intro q; exact h1.2 q.1.symm q.2.symm
  exact ⟨e3.trans h.len, h.top, fun i hi => by rw [e]; exact h.byt i hi⟩
theorem RT.rw (h : RT M N) (h1 : k ≠ 140 ∧ (k = 135 → j ≠ 10)) : RT M (wr N k j v) := by
  have e : ∀ i, rd (wr N k j v) 140 i = rd N 140 i := fun i => rd_wk (fun e => h1.1 e.symm)
  have e3 : rd (wr N k j v) 135 10 = rd N 135 10 := by
    rw [rd_eq, if_neg]; intro q; exact h1.2 q.1.symm q.2.symm
  exact ⟨h.len.trans e3.symm, by rw [e3]; exact h.top, fun i hi => by rw [e]; exact h.byt i (by rw [e3] at hi; exact hi)⟩
theorem pc_byteAt : Pc (mX7_byteAt 135 i N) (fun r => ((rd N 135 10).toInt ≤ i.toInt ∧ r = -1) ∨ (i.toInt < (rd N 135 10).toInt ∧ 0 ≤ i.toInt ∧ r = rd N 140 i.toNatClampNeg)) := by
  unfold mX7_byteAt
  refine Pc.i (fun c => Pc.ok (Or.inl ⟨i_le.mp c, rfl⟩)) (fun c => Pc.k (fun b => Pc.ok (Or.inr ⟨i_nle c, ?_, rfl⟩)))
  have q := okb_in b
  have q : ¬ (i < 0) := fun e => q (Or.inl e)
  have q := i_nlt q
  exact q
theorem pc_let7 : Pc (mX7_isLetter x N) (fun r => r = 0 ↔ ¬ (97 ≤ x.toInt ∧ x.toInt ≤ 122)) := by
  unfold mX7_isLetter
  have n1 : ((97 : Int32)).toInt = 97 := rfl
  have n2 : ((122 : Int32)).toInt = 122 := rfl
  refine Pc.i (fun c => Pc.ok ⟨fun _ => ?_, fun _ => rfl⟩) (fun c => Pc.i (fun c2 => Pc.ok ⟨fun _ => ?_, fun _ => rfl⟩) (fun c2 => Pc.ok ⟨fun e => absurd e (by decide), fun e => ?_⟩))
  · have c := i_lt.mp c; omega
  · have c2 := i_lt.mp c2; omega
  · have c := i_nlt c; have c2 := i_nlt c2; exact absurd ⟨by omega, by omega⟩ e
theorem pc_let4 : Pc (mX4_isLetter x M) (fun r => r = 0 ↔ ¬ (97 ≤ x.toInt ∧ x.toInt ≤ 122)) := pc_let7 (N := M)
theorem pc_dig7 : Pc (mX7_isDigit x N) (fun r => r = 0 ↔ ¬ (48 ≤ x.toInt ∧ x.toInt ≤ 57)) := by
  unfold mX7_isDigit
  have n1 : ((48 : Int32)).toInt = 48 := rfl
  have n2 : ((57 : Int32)).toInt = 57 := rfl
  refine Pc.i (fun c => Pc.ok ⟨fun _ => ?_, fun _ => rfl⟩) (fun c => Pc.i (fun c2 => Pc.ok ⟨fun _ => ?_, fun _ => rfl⟩) (fun c2 => Pc.ok ⟨fun e => absurd e (by decide), fun e => ?_⟩))
  · have c := i_lt.mp c; omega
  · have c2 := i_lt.mp c2; omega
  · have c := i_nlt c; have c2 := i_nlt c2; exact absurd ⟨by omega, by omega⟩ e
theorem pc_dig4 : Pc (mX4_isDigit x M) (fun r => r = 0 ↔ ¬ (48 ≤ x.toInt ∧ x.toInt ≤ 57)) := pc_dig7 (N := M)
theorem pc_spc4 : Pc (mX4_isSpace x M) (fun r => r = 0 ↔ ¬ (x = 32 ∨ x = 10)) := by
  unfold mX4_isSpace mX4_isSpace_b12
  refine Pc.i (fun c => Pc.ok ⟨fun e => absurd e (by decide), fun e => absurd (Or.inl c) e⟩) (fun c => Pc.i (fun c2 => Pc.ok ⟨fun e => absurd e (by decide), fun e => absurd (Or.inr c2) e⟩) (fun c2 => Pc.ok ⟨fun _ e => e.elim c c2, fun _ => rfl⟩))
theorem BR.let (h : BR x y) : (97 ≤ x.toInt ∧ x.toInt ≤ 122) ↔ (97 ≤ y.toInt ∧ y.toInt ≤ 122) := by
  rcases h with ⟨rfl, _⟩ | ⟨h1, h2⟩
  · exact Iff.rfl
  · constructor <;> (intro h; omega)
theorem BR.dig (h : BR x y) : (48 ≤ x.toInt ∧ x.toInt ≤ 57) ↔ (48 ≤ y.toInt ∧ y.toInt ≤ 57) := by
  rcases h with ⟨rfl, _⟩ | ⟨h1, h2⟩
  · exact Iff.rfl
  · constructor <;> (intro h; omega)
theorem BR.eq (h : BR x y) {c : Int32} (hc : 0 ≤ c.toInt ∧ c.toInt ≤ 127) : x = c ↔ y = c := by
  rcases h with ⟨rfl, _⟩ | ⟨h1, h2⟩
  · exact Iff.rfl
  · constructor <;> (intro h; subst h; omega)
theorem BR.ne1 (h : BR x y) : ¬ y = -1 := by
  intro e; subst e
  rcases h with ⟨_, h1, _⟩ | ⟨_, h1⟩ <;> exact absurd h1 (by decide)
theorem BR.same (h : BR x y) (hd : 48 ≤ y.toInt ∧ y.toInt ≤ 57) : x = y := by
  rcases h with ⟨h, _⟩ | ⟨h1, h2⟩
  · exact h
  · omega
theorem rt_b (h : RT M N) (h0 : 0 ≤ i.toInt) (h1 : i.toInt < (rd N 135 10).toInt) : BR (rd M 1 i.toNatClampNeg) (rd N 140 i.toNatClampNeg) := h.byt _ (by rw [i_clamp]; omega)
theorem i_inc (h0 : 0 ≤ i.toInt) (h1 : i.toInt < 600) : (i + 1).toInt = i.toInt + 1 := by
  rw [i_add (by rw [show ((1 : Int32)).toInt = 1 from rfl]; omega) (by rw [show ((1 : Int32)).toInt = 1 from rfl]; omega)]; rfl
/-- the end of a run of letters or digits -/
theorem tk_end {n : Int32} {c : Int32} (h : RT M N) (h5 : rd M 2 5 = rd N 135 12) (h4 : rd M 2 4 = rd N 135 11) (h7 : c = 3 → rd M 2 7 = rd N 135 14) (b0 : 0 ≤ (rd N 135 11).toInt) (b1 : (rd N 135 11).toInt ≤ (rd N 135 12).toInt) (b2 : (rd N 135 12).toInt ≤ (rd N 135 10).toInt) (bs : (rd N 135 11).toInt < (rd N 135 10).toInt) (hc : ¬ c = 1) :
    R2 (ite2 (n < ((rd M 2 5) - (rd M 2 4))) (bnd (wr M 2 6 (1 : Int32)) (fun M3 => some (M3, ()))) (bnd (wr M 2 6 c) (fun M5 => some (M5, ())))) (ite2 (((rd N 135 12) - (rd N 135 11)) ≤ n) (bnd (wr N 135 13 c) (fun M42 => some (M42, (1 : Int32)))) (bnd (wr N 135 13 (1 : Int32)) (fun M42 => some (M42, (1 : Int32))))) (fun a b => TT a.1 b.1) := by
  rw [h5, h4]
  have key : ∀ t : Int32, (t = 3 → rd M 2 7 = rd N 135 14) → TT (wr M 2 6 t) (wr N 135 13 t) := fun t ht => by
    refine ⟨(h.lw (by decide)).rw (by decide), ?_, ?_, ?_, ?_, ?_, ?_, ?_, fun _ => ?_⟩
    · rw [rd_wj (by decide), rd_wj (by decide)]; exact h4
    · rw [rd_wj (by decide), rd_wj (by decide)]; exact h5
    · rw [rd_we, rd_we]
    · rw [rd_we, rd_wj (by decide), rd_wj (by decide)]; exact ht
    · rw [rd_wj (by decide)]; exact b0
    · rw [rd_wj (by decide), rd_wj (by decide)]; exact b1
    · rw [rd_wj (by decide), rd_wj (by decide)]; exact b2
    · rw [rd_wj (by decide), rd_wj (by decide)]; exact bs
  refine R2.il (fun c1 => R2.ir (fun c2 => ?_) (fun c2 => ?_)) (fun c1 => R2.ir (fun c2 => ?_) (fun c2 => ?_))
  · have c1 := i_lt.mp c1; have c2 := i_le.mp c2; exfalso; omega
  · exact R2.bl (fun a ea => R2.br (fun b eb => R2.ok (by subst ea; subst eb; exact key 1 (fun e => absurd e (by decide)))))
  · exact R2.bl (fun a ea => R2.br (fun b eb => R2.ok (by subst ea; subst eb; exact key c h7)))
  · have c1 := i_nlt c1; have c2 := i_nle c2; exfalso; omega
theorem tw_l : ∀ (n m : Nat) (M N : Mem), RT M N → rd M 2 5 = rd N 135 12 → rd M 2 4 = rd N 135 11 → 0 ≤ (rd N 135 11).toInt → (rd N 135 11).toInt ≤ (rd N 135 12).toInt → (rd N 135 12).toInt ≤ (rd N 135 10).toInt → (rd N 135 11).toInt < (rd N 135 10).toInt → R2 (mX4_takeWord_l0 2 n M) (mX7_advance_l76 135 m N) (fun a b => TT a.1 b.1) := by
  intro n
  induction n with
  | zero => intro m M N _ _ _ _ _ _ _; exact R2.nl
  | succ n IH =>
    intro m M N h h5 h4 b0 b1 b2 bs
    cases m with
    | zero => exact R2.nr
    | succ m =>
      show R2 (mX4_takeWord_b0 2 (mX4_takeWord_l0 2 n) M) (mX7_advance_b76 135 (mX7_advance_l76 135 m) N) _
      have he : R2 (mX4_takeWord_b39 2 M) (ite2 (((rd N 135 12) - (rd N 135 11)) ≤ (6 : Int32)) (mX7_advance_b123 135 (2 : Int32) N) (mX7_advance_b123 135 (1 : Int32) N)) (fun a b => TT a.1 b.1) :=
        tk_end (c := 2) (n := 6) h h5 h4 (fun e => absurd e (by decide)) b0 b1 b2 bs (by decide)
      unfold mX4_takeWord_b0 mX7_advance_b76
      rw [h.len, h5]
      refine R2.cr pc_byteAt (fun r pr => R2.cr pc_let7 (fun r2 p2 => ?_))
      refine R2.il (fun c => R2.ir (fun _ => he) (fun c2 => ?_)) (fun c => R2.kl (fun _ => R2.kl (fun _ => R2.cl pc_let4 (fun r3 p3 => ?_))))
      · have c := i_le.mp c
        rcases pr with ⟨_, e⟩ | ⟨e, _⟩
        · rw [e] at p2; exact absurd (p2.mpr (by decide)) c2
        · exfalso; omega
      · have c := i_nle c
        rcases pr with ⟨e, _⟩ | ⟨_, e0, e⟩
        · exfalso; omega
        · have hb := (rt_b h e0 c).let
          rw [← e] at hb
          refine R2.il (fun c3 => R2.ir (fun _ => he) (fun c2 => ?_)) (fun c3 => R2.ir (fun c2 => ?_) (fun c2 => ?_))
          · exact absurd (p2.mpr (fun q => (p3.mp c3) (hb.mpr q))) c2
          · exact absurd (p3.mpr (fun q => (p2.mp c2) (hb.mp q))) c3
          · refine R2.bl (fun M' eM => R2.br (fun N' eN => ?_))
            have t := i_inc e0 (by have := h.top; omega)
            subst eM; subst eN
            have r12 : rd (wr N 135 12 (rd N 135 12 + 1)) 135 12 = rd N 135 12 + 1 := rd_we
            have r11 : rd (wr N 135 12 (rd N 135 12 + 1)) 135 11 = rd N 135 11 := rd_wj (by decide)
            have r10 : rd (wr N 135 12 (rd N 135 12 + 1)) 135 10 = rd N 135 10 := rd_wj (by decide)
            refine IH m _ _ ((h.lw (by decide)).rw (by decide)) ?_ ?_ ?_ ?_ ?_ ?_
            · rw [rd_we, r12]
            · rw [rd_wj (by decide), r11]; exact h4
            · rw [r11]; exact b0
            · rw [r11, r12, t]; omega
            · rw [r10, r12, t]; omega
            · rw [r10, r11]; exact bs
theorem tn_l : ∀ (n m : Nat) (M N : Mem), RT M N → rd M 2 5 = rd N 135 12 → rd M 2 4 = rd N 135 11 → rd M 2 7 = rd N 135 14 → 0 ≤ (rd N 135 11).toInt → (rd N 135 11).toInt ≤ (rd N 135 12).toInt → (rd N 135 12).toInt ≤ (rd N 135 10).toInt → (rd N 135 11).toInt < (rd N 135 10).toInt → R2 (mX4_takeNumber_l0 2 n M) (mX7_advance_l141 135 m N) (fun a b => TT a.1 b.1) := by
  intro n
  induction n with
  | zero => intro m M N _ _ _ _ _ _ _ _; exact R2.nl
  | succ n IH =>
    intro m M N h h5 h4 h7 b0 b1 b2 bs
    cases m with
    | zero => exact R2.nr
    | succ m =>
      show R2 (mX4_takeNumber_b0 2 (mX4_takeNumber_l0 2 n) M) (mX7_advance_b141 135 (mX7_advance_l141 135 m) N) _
      have he : R2 (mX4_takeNumber_b76 2 M) (ite2 (((rd N 135 12) - (rd N 135 11)) ≤ (4 : Int32)) (mX7_advance_b230 135 (3 : Int32) N) (mX7_advance_b230 135 (1 : Int32) N)) (fun a b => TT a.1 b.1) :=
        tk_end (c := 3) (n := 4) h h5 h4 (fun _ => h7) b0 b1 b2 bs (by decide)
      unfold mX4_takeNumber_b0 mX7_advance_b141
      rw [h.len, h5, h4, h7]
      refine R2.cr pc_byteAt (fun r pr => R2.cr pc_dig7 (fun r2 p2 => ?_))
      refine R2.il (fun c => R2.ir (fun _ => he) (fun c2 => ?_)) (fun c => R2.kl (fun _ => R2.kl (fun _ => R2.cl pc_dig4 (fun r3 p3 => ?_))))
      · have c := i_le.mp c
        rcases pr with ⟨_, e⟩ | ⟨e, _⟩
        · rw [e] at p2; exact absurd (p2.mpr (by decide)) c2
        · exfalso; omega
      · have c := i_nle c
        rcases pr with ⟨e, _⟩ | ⟨_, e0, e⟩
        · exfalso; omega
        · have hB := rt_b h e0 c
          have hb := hB.dig
          rw [← e] at hb
          refine R2.il (fun c3 => R2.ir (fun _ => he) (fun c2 => ?_)) (fun c3 => R2.ir (fun c2 => ?_) (fun c2 => ?_))
          · exact absurd (p2.mpr (fun q => (p3.mp c3) (hb.mpr q))) c2
          · exact absurd (p3.mpr (fun q => (p2.mp c2) (hb.mp q))) c3
          · have hd : 48 ≤ r.toInt ∧ r.toInt ≤ 57 := Decidable.byContradiction (fun q => c2 (p2.mpr q))
            have hs : rd M 1 (rd N 135 12).toNatClampNeg = r := by rw [e] at hd ⊢; exact hB.same hd
            have t := i_inc e0 (by have := h.top; omega)
            have go : ∀ (w : Int32) (M1 : Mem), RT M1 N → rd M1 2 5 = rd N 135 12 → rd M1 2 4 = rd N 135 11 → rd M1 2 7 = w → R2 (mX4_takeNumber_b63 2 (mX4_takeNumber_l0 2 n) M1) (mX7_advance_b195 135 (mX7_advance_l141 135 m) w N) (fun a b => TT a.1 b.1) := by
              intro w M1 g g5 g4 g7
              unfold mX4_takeNumber_b63 mX7_advance_b195
              refine R2.bl (fun M' eM => R2.br (fun N1 e1 => R2.br (fun N' eN => ?_)))
              rw [g5] at eM
              have r1 : rd N1 135 12 = rd N 135 12 := by rw [e1]; exact rd_wj (by decide)
              rw [r1] at eN
              have r12 : rd N' 135 12 = rd N 135 12 + 1 := by rw [eN]; exact rd_we
              have r11 : rd N' 135 11 = rd N 135 11 := by rw [eN, rd_wj (by decide), e1, rd_wj (by decide)]
              have r10 : rd N' 135 10 = rd N 135 10 := by rw [eN, rd_wj (by decide), e1, rd_wj (by decide)]
              have r14 : rd N' 135 14 = w := by rw [eN, rd_wj (by decide), e1, rd_we]
              have hR : RT M' N' := by rw [eM, eN, e1]; exact ((g.lw (by decide)).rw (by decide)).rw (by decide)
              refine IH m _ _ hR ?_ ?_ ?_ ?_ ?_ ?_ ?_
              · rw [eM, rd_we, r12]
              · rw [eM, rd_wj (by decide), r11]; exact g4
              · rw [eM, rd_wj (by decide), r14]; exact g7
              · rw [r11]; exact b0
              · rw [r11, r12, t]; omega
              · rw [r10, r12, t]; omega
              · rw [r10, r11]; exact bs
            refine R2.il (fun c4 => R2.ir (fun _ => go _ M h h5 h4 h7) (fun c5 => absurd c4 c5)) (fun c4 => R2.ir (fun c5 => absurd c5 c4) (fun _ => R2.kl (fun _ => R2.kl (fun _ => R2.bl (fun M1 e1 => R2.cr (Pc.self _) (fun r50 p50 => ?_))))))
            have e50 : r50 = r := by
              rcases pc_byteAt r50 p50 with ⟨q, _⟩ | ⟨_, _, q⟩
              · exfalso; omega
              · rw [q, e]
            subst e50
            refine go _ M1 ?_ ?_ ?_ ?_
            · rw [e1]; exact h.lw (by decide)
            · rw [e1, rd_wj (by decide)]; exact h5
            · rw [e1, rd_wj (by decide)]; exact h4
            · rw [e1, rd_we, hs]
              rw [Int32.sub_eq_add_neg, Int32.sub_eq_add_neg, Int32.add_assoc]
theorem tk_l : ∀ (n m : Nat) (M N : Mem), RT M N → rd M 2 4 = rd N 135 12 → 0 ≤ (rd N 135 12).toInt → (rd N 135 12).toInt ≤ (rd N 135 10).toInt → R2 (mX4_nextToken_l8 2 n M) (mX7_advance_l0 135 m N) (fun a b => TT a.1 b.1) := by
  intro n
  induction n with
  | zero => intro m M N _ _ _ _; exact R2.nl
  | succ n IH =>
    intro m M N h h4 b0 b2
    cases m with
    | zero => exact R2.nr
    | succ m =>
      show R2 (mX4_nextToken_b8 2 (mX4_nextToken_l8 2 n) M) (mX7_advance_b0 135 (mX7_advance_l0 135 m) N) _
      unfold mX4_nextToken_b8 mX7_advance_b0
      rw [h.len, h4]
      -- the token itself
      have tok : ∀ r2, ((rd N 135 10).toInt ≤ (rd N 135 12).toInt ∧ r2 = -1) ∨ ((rd N 135 12).toInt < (rd N 135 10).toInt ∧ 0 ≤ (rd N 135 12).toInt ∧ r2 = rd N 140 (rd N 135 12).toNatClampNeg) → R2 (mX4_nextToken_b47 2 M) (bnd (wr N 135 11 (rd N 135 12)) (fun M11 => cap (mX7_byteAt 135 (rd M11 135 12) M11) (fun r14 => ite2 (r14 = (-1 : Int32)) (bnd (wr M11 135 13 (0 : Int32)) (fun M64 => some (M64, (1 : Int32)))) (cap (mX7_isLetter r14 M11) (fun r18 => ite2 (r18 = 0) (cap (mX7_isDigit r14 M11) (fun r22 => ite2 (r22 = 0) (bnd (wr M11 135 12 ((rd M11 135 12) + (1 : Int32))) (fun M25 => ite2 (r14 = (59 : Int32)) (bnd (wr M25 135 13 (4 : Int32)) (fun M30 => some (M30, (1 : Int32)))) (bnd (wr M25 135 13 (1 : Int32)) (fun M28 => some (M28, (1 : Int32)))))) (bnd (wr M11 135 14 (0 : Int32)) (fun M32 => mX7_advance_l141 135 5000 M32)))) (mX7_advance_l76 135 5000 M11)))))) (fun a b => TT a.1 b.1) := by
        intro r2 p2
        unfold mX4_nextToken_b47
        refine R2.br (fun N1 e1 => R2.bl (fun M4 e4 => R2.bl (fun M6 e6 => R2.cr pc_byteAt (fun r pr => ?_))))
        rw [h4] at e4
        have n12 : rd N1 135 12 = rd N 135 12 := by rw [e1]; exact rd_wj (by decide)
        have n11 : rd N1 135 11 = rd N 135 12 := by rw [e1]; exact rd_we
        have n10 : rd N1 135 10 = rd N 135 10 := by rw [e1]; exact rd_wj (by decide)
        have m5 : rd M6 2 5 = rd N1 135 12 := by rw [e6, rd_wj (by decide), e4, rd_we, n12]
        have m4 : rd M6 2 4 = rd N1 135 11 := by rw [e6, rd_wj (by decide), e4, rd_wj (by decide), n11]; exact h4
        have m7 : rd M6 2 7 = 0 := by rw [e6, rd_we]
        have hR : RT M6 N1 := by rw [e6, e4, e1]; exact (((h.lw (by decide)).lw (by decide)).rw (by decide))
        have k0 : 0 ≤ (rd N1 135 11).toInt := by rw [n11]; exact b0
        have k1 : (rd N1 135 11).toInt ≤ (rd N1 135 12).toInt := by rw [n11, n12]; omega
        have k2 : (rd N1 135 12).toInt ≤ (rd N1 135 10).toInt := by rw [n12, n10]; exact b2
        rw [hR.len, m4]
        have eq : rd N1 135 11 = rd N1 135 12 := n11.trans n12.symm
        rw [eq]
        refine R2.il (fun c => R2.kl (fun _ => R2.kl (fun _ => R2.cl pc_let4 (fun r12 p12 => ?_)))) (fun c => ?_)
        · have c := i_lt.mp c
          rcases pr with ⟨q, _⟩ | ⟨_, e0, er⟩
          · exfalso; omega
          have hB := rt_b hR e0 c
          rw [← er] at hB
          refine R2.ir (fun q => absurd q hB.ne1) (fun _ => R2.cr pc_let7 (fun r18 p18 => ?_))
          refine R2.il (fun c12 => R2.kl (fun _ => R2.kl (fun _ => R2.cl pc_dig4 (fun r18' p18' => ?_)))) (fun c12 => ?_)
          · refine R2.ir (fun c18 => R2.cr pc_dig7 (fun r22 p22 => ?_)) (fun c18 => absurd (p18.mpr (fun q => (p12.mp c12) (hB.let.mpr q))) c18)
            refine R2.il (fun c1 => R2.ir (fun c2 => ?_) (fun c2 => absurd (p22.mpr (fun q => (p18'.mp c1) (hB.dig.mpr q))) c2)) (fun c1 => R2.ir (fun c2 => absurd (p18'.mpr (fun q => (p22.mp c2) (hB.dig.mp q))) c1) (fun c2 => ?_))
            · have t := i_inc e0 (by have := hR.top; omega)
              have fin : ∀ (y : Int32) (N25 : Mem), ¬ y = 3 → N25 = wr N1 135 12 (rd N1 135 12 + 1) → R2 (mX4_nextToken_b143 2 y M6) (bnd (wr N25 135 13 y) (fun M30 => some (M30, (1 : Int32)))) (fun a b => TT a.1 b.1) := by
                intro y N25 hy e25
                unfold mX4_nextToken_b143
                refine R2.bl (fun Ma ea => R2.bl (fun Mb eb => R2.br (fun Nb enb => R2.ok ?_)))
                have a5 : rd Ma 2 5 = rd N1 135 12 := by rw [ea, rd_wj (by decide)]; exact m5
                rw [a5] at eb
                have x12 : rd Nb 135 12 = rd N1 135 12 + 1 := by rw [enb, rd_wj (by decide), e25, rd_we]
                have x11 : rd Nb 135 11 = rd N1 135 12 := by rw [enb, rd_wj (by decide), e25, rd_wj (by decide)]; exact eq
                have x10 : rd Nb 135 10 = rd N1 135 10 := by rw [enb, rd_wj (by decide), e25, rd_wj (by decide)]
                have x13 : rd Nb 135 13 = y := by rw [enb, rd_we]
                refine ⟨?_, ?_, ?_, ?_, ?_, ?_, ?_, ?_, fun _ => ?_⟩
                · show RT Mb Nb
                  rw [eb, ea, enb, e25]; exact ((((hR.lw (by decide)).lw (by decide)).rw (by decide)).rw (by decide))
                · show rd Mb 2 4 = rd Nb 135 11
                  rw [x11, eb, rd_wj (by decide), ea, rd_wj (by decide)]; exact m4.trans eq
                · show rd Mb 2 5 = rd Nb 135 12
                  rw [x12, eb, rd_we]
                · show rd Mb 2 6 = rd Nb 135 13
                  rw [x13, eb, rd_wj (by decide), ea, rd_we]
                · intro q; exact absurd (x13.symm.trans q) hy
                · show 0 ≤ (rd Nb 135 11).toInt
                  rw [x11]; exact e0
                · show (rd Nb 135 11).toInt ≤ (rd Nb 135 12).toInt
                  rw [x11, x12, t]; omega
                · show (rd Nb 135 12).toInt ≤ (rd Nb 135 10).toInt
                  rw [x10, x12, t]; omega
                · show (rd Nb 135 11).toInt < (rd Nb 135 10).toInt
                  rw [x11, x10]; exact c
              refine R2.kl (fun _ => R2.kl (fun _ => R2.br (fun N25 e25 => ?_)))
              have h59 := hB.eq (c := 59) (by decide)
              exact R2.il (fun q1 => R2.ir (fun q2 => fin 4 N25 (by decide) e25) (fun q2 => absurd (h59.mp q1) q2)) (fun q1 => R2.ir (fun q2 => absurd (h59.mpr q2) q1) (fun q2 => fin 1 N25 (by decide) e25))
            · refine R2.br (fun N32 e32 => ?_)
              have hN : R2 (mX4_takeNumber 2 M6) (mX7_advance_l141 135 5000 N32) (fun a b => TT a.1 b.1) := by
                unfold mX4_takeNumber
                refine tn_l 5000 5000 M6 N32 (by rw [e32]; exact hR.rw (by decide)) ?_ ?_ ?_ ?_ ?_ ?_ ?_
                · rw [e32, rd_wj (by decide)]; exact m5
                · rw [e32, rd_wj (by decide)]; exact m4
                · rw [e32, rd_we]; exact m7
                · rw [e32, rd_wj (by decide)]; exact k0
                · rw [e32, rd_wj (by decide), rd_wj (by decide)]; exact k1
                · rw [e32, rd_wj (by decide), rd_wj (by decide)]; exact k2
                · rw [e32, rd_wj (by decide), rd_wj (by decide), eq]; exact c
              intro a b ha hb
              obtain ⟨M30, u, ha1, ha2⟩ := cal_s ha
              cases ha2
              exact hN _ _ ha1 hb
          · refine R2.ir (fun c18 => absurd (p12.mpr (fun q => (p18.mp c18) (hB.let.mp q))) c12) (fun c18 => ?_)
            intro a b ha hb
            obtain ⟨M33, u, ha1, ha2⟩ := cal_s ha
            cases ha2
            unfold mX4_takeWord at ha1
            exact tw_l 5000 5000 M6 N1 hR m5 m4 k0 k1 k2 (by rw [eq]; exact c) _ _ ha1 hb
        · have c := i_nlt c
          rcases pr with ⟨_, er⟩ | ⟨q, _⟩
          · refine R2.ir (fun _ => R2.bl (fun Ma ea => R2.br (fun Nb enb => R2.ok ?_))) (fun q => absurd er q)
            subst ea; subst enb
            refine ⟨(hR.lw (by decide)).rw (by decide), ?_, ?_, ?_, ?_, ?_, ?_, ?_, fun q => absurd rd_we q⟩
            · show rd (wr M6 2 6 0) 2 4 = rd (wr N1 135 13 0) 135 11
              rw [rd_wj (by decide), rd_wj (by decide)]; exact m4
            · show rd (wr M6 2 6 0) 2 5 = rd (wr N1 135 13 0) 135 12
              rw [rd_wj (by decide), rd_wj (by decide)]; exact m5
            · show rd (wr M6 2 6 0) 2 6 = rd (wr N1 135 13 0) 135 13
              rw [rd_we, rd_we]
            · intro q; exact absurd (rd_we.symm.trans q) (by decide)
            · show 0 ≤ (rd (wr N1 135 13 0) 135 11).toInt
              rw [rd_wj (by decide)]; exact k0
            · show (rd (wr N1 135 13 0) 135 11).toInt ≤ (rd (wr N1 135 13 0) 135 12).toInt
              rw [rd_wj (by decide), rd_wj (by decide)]; exact k1
            · show (rd (wr N1 135 13 0) 135 12).toInt ≤ (rd (wr N1 135 13 0) 135 10).toInt
              rw [rd_wj (by decide), rd_wj (by decide)]; exact k2
          · exfalso; omega
      refine R2.cr pc_byteAt (fun r2 p2 => ?_)
      refine R2.il (fun c => ?_) (fun c => R2.kl (fun _ => R2.kl (fun _ => R2.cl pc_spc4 (fun r3 p3 => ?_))))
      · have c := i_le.mp c
        have e2 : r2 = -1 := by
          rcases p2 with ⟨_, e⟩ | ⟨q, _⟩
          · exact e
          · exfalso; omega
        refine R2.ir (fun q => absurd (e2.symm.trans q) (by decide)) (fun _ => R2.cr pc_byteAt (fun r8 p8 => R2.ir (fun q => ?_) (fun _ => tok r2 p2)))
        rcases p8 with ⟨_, e⟩ | ⟨q8, _⟩
        · exact absurd (e.symm.trans q) (by decide)
        · exfalso; omega
      · have c := i_nle c
        rcases p2 with ⟨q, _⟩ | ⟨_, e0, e2⟩
        · exfalso; omega
        have hB := rt_b h e0 c
        have h32 := hB.eq (c := 32) (by decide)
        have h10 := hB.eq (c := 10) (by decide)
        have t := i_inc e0 (by have := h.top; omega)
        have go : R2 (bnd (wr M 2 4 (rd N 135 12 + 1)) (fun M42 => mX4_nextToken_l8 2 n M42)) (mX7_advance_b26 135 (mX7_advance_l0 135 m) N) (fun a b => TT a.1 b.1) := by
          unfold mX7_advance_b26
          refine R2.bl (fun Ma ea => R2.br (fun Nb enb => ?_))
          have x12 : rd Nb 135 12 = rd N 135 12 + 1 := by rw [enb, rd_we]
          have x10 : rd Nb 135 10 = rd N 135 10 := by rw [enb, rd_wj (by decide)]
          refine IH m Ma Nb (by rw [ea, enb]; exact (h.lw (by decide)).rw (by decide)) ?_ ?_ ?_
          · rw [x12, ea, rd_we]
          · rw [x12, t]; omega
          · rw [x12, x10, t]; omega
        rw [← e2] at h32 h10
        refine R2.il (fun c3 => ?_) (fun c3 => ?_)
        · have ns := p3.mp c3
          refine R2.ir (fun q => absurd (Or.inl (h32.mpr q)) ns) (fun _ => R2.cr pc_byteAt (fun r8 p8 => ?_))
          have e8 : r8 = r2 := by
            rcases p8 with ⟨q8, _⟩ | ⟨_, _, q8⟩
            · exfalso; omega
            · rw [q8, e2]
          subst e8
          exact R2.ir (fun q => absurd (Or.inr (h10.mpr q)) ns) (fun _ => tok r8 (Or.inr ⟨c, e0, e2⟩))
        · refine R2.ir (fun _ => go) (fun q32 => R2.cr pc_byteAt (fun r8 p8 => ?_))
          have e8 : r8 = r2 := by
            rcases p8 with ⟨q8, _⟩ | ⟨_, _, q8⟩
            · exfalso; omega
            · rw [q8, e2]
          subst e8
          refine R2.ir (fun _ => go) (fun q10 => absurd (p3.mpr (fun q => ?_)) c3)
          rcases q with q | q
          · exact q32 (h32.mp q)
          · exact q10 (h10.mp q)
/-- both read the next token -/
theorem tk_next (h : RT M N) (h5 : rd M 2 5 = rd N 135 12) (b0 : 0 ≤ (rd N 135 12).toInt) (b2 : (rd N 135 12).toInt ≤ (rd N 135 10).toInt) : R2 (mX4_nextToken 2 M) (mX7_advance 135 N) (fun a b => TT a.1 b.1) := by
  unfold mX4_nextToken mX7_advance
  refine R2.bl (fun Ma ea => ?_)
  rw [h5] at ea
  exact tk_l 5000 5000 Ma N (by rw [ea]; exact h.lw (by decide)) (by rw [ea, rd_we]) b0 b2
end TK
