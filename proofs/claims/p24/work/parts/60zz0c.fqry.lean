/-! what questions write (printed) -/
def SQr (k j : Nat) : Prop := (k = 135 ∧ j ≠ 4) ∨ 141 ≤ k
section FFqry
variable {M0 : Mem}
theorem bX7_good {x1 : Int32} {M : Mem} (hM : KS SQr M0 M) : Fr SQr M0 (mX7_good 135 x1 M) := by
  unfold mX7_good
  exact (Fr.i (Fr.bw (Or.inl ⟨rfl, by decide⟩) hM (fun M2 hM2 => (Fr.k (Fr.ok hM2)))) (Fr.bw (Or.inl ⟨rfl, by decide⟩) hM (fun M5 hM5 => (Fr.k (Fr.ok hM5)))))
theorem bX7_good__b18 {y1 : Int32} {M : Mem} (hM : KS SQr M0 M) : Fr SQr M0 (mX7_good__b18 135 y1 M) := by
  unfold mX7_good__b18
  exact (Fr.bw (Or.inl ⟨rfl, by decide⟩) hM (fun M3 hM3 => (Fr.i (Fr.ok hM3) (Fr.ok hM3))))
theorem bX7_good_ {x1 : Int32} {x2 : Int32} {M : Mem} (hM : KS SQr M0 M) : Fr SQr M0 (mX7_good_ 135 x1 x2 M) := by
  unfold mX7_good_
  exact (Fr.i (bX7_good__b18 hM) (Fr.i (bX7_good__b18 hM) (bX7_good__b18 hM)))
theorem bX7_good___b26 {y1 : Int32} {M : Mem} (hM : KS SQr M0 M) : Fr SQr M0 (mX7_good___b26 135 y1 M) := by
  unfold mX7_good___b26
  exact (Fr.bw (Or.inl ⟨rfl, by decide⟩) hM (fun M4 hM4 => (Fr.i (Fr.ok hM4) (Fr.ok hM4))))
theorem bX7_good__ {x1 : Int32} {x2 : Int32} {x3 : Int32} {M : Mem} (hM : KS SQr M0 M) : Fr SQr M0 (mX7_good__ 135 x1 x2 x3 M) := by
  unfold mX7_good__
  exact (Fr.i (bX7_good___b26 hM) (Fr.i (bX7_good___b26 hM) (Fr.i (bX7_good___b26 hM) (bX7_good___b26 hM))))
theorem bX7_errorKind {M : Mem} (hM : KS SQr M0 M) : Fr SQr M0 (mX7_errorKind 135 M) := by
  unfold mX7_errorKind
  exact (Fr.bw (Or.inl ⟨rfl, by decide⟩) hM (fun M1 hM1 => (Fr.ok hM1)))
theorem bX7_errorPosition {M : Mem} (hM : KS SQr M0 M) : Fr SQr M0 (mX7_errorPosition 135 M) := by
  unfold mX7_errorPosition
  exact (Fr.bw (Or.inl ⟨rfl, by decide⟩) hM (fun M1 hM1 => (Fr.ok hM1)))
theorem bX7_tellNow {x1 : Int32} {M : Mem} (hM : KS SQr M0 M) : Fr SQr M0 (mX7_tellNow 135 x1 M) := by
  unfold mX7_tellNow
  exact (Fr.bw (Or.inl ⟨rfl, by decide⟩) hM (fun M1 hM1 => (Fr.k (Fr.ok hM1))))
theorem bX7_bends {M : Mem} (hM : KS SQr M0 M) : Fr SQr M0 (mX7_bends 135 M) := by
  unfold mX7_bends
  exact (Fr.m (bX7_tellNow hM) (fun M3 r2 hM3 => (Fr.ok hM3)))
theorem bX7_legs {M : Mem} (hM : KS SQr M0 M) : Fr SQr M0 (mX7_legs 135 M) := by
  unfold mX7_legs
  exact (Fr.m (bX7_tellNow hM) (fun M3 r2 hM3 => (Fr.ok hM3)))
theorem bX7_leg {x1 : Int32} {M : Mem} (hM : KS SQr M0 M) : Fr SQr M0 (mX7_leg 135 x1 M) := by
  unfold mX7_leg
  exact (Fr.c (fun r2 => (Fr.m (bX7_good hM) (fun M6 r5 hM6 => (Fr.i (Fr.ok hM6) (Fr.k (Fr.ok hM6)))))))
theorem bX7_isUp {x1 : Int32} {M : Mem} (hM : KS SQr M0 M) : Fr SQr M0 (mX7_isUp 135 x1 M) := by
  unfold mX7_isUp
  exact (Fr.c (fun r2 => (Fr.m (bX7_good hM) (fun M6 r5 hM6 => (Fr.i (Fr.ok hM6) (Fr.k (Fr.i (Fr.ok hM6) (Fr.ok hM6))))))))
theorem bX7_deduction {M : Mem} (hM : KS SQr M0 M) : Fr SQr M0 (mX7_deduction 135 M) := by
  unfold mX7_deduction
  exact (Fr.bw (Or.inl ⟨rfl, by decide⟩) hM (fun M1 hM1 => (Fr.c (fun r4 => (Fr.ok hM1)))))
theorem bX7_flatLength {M : Mem} (hM : KS SQr M0 M) : Fr SQr M0 (mX7_flatLength 135 M) := by
  unfold mX7_flatLength
  exact (Fr.bw (Or.inl ⟨rfl, by decide⟩) hM (fun M1 hM1 => (Fr.k (Fr.i (Fr.ok hM1) (Fr.k (Fr.c (fun r7 => (Fr.k (Fr.c (fun r11 => (Fr.k (Fr.k (Fr.ok hM1)))))))))))))
theorem bX7_linePlace {x1 : Int32} {M : Mem} (hM : KS SQr M0 M) : Fr SQr M0 (mX7_linePlace 135 x1 M) := by
  unfold mX7_linePlace
  exact (Fr.c (fun r2 => (Fr.m (bX7_good hM) (fun M6 r5 hM6 => (Fr.i (Fr.ok hM6) (Fr.c (fun r9 => (Fr.k (Fr.c (fun r13 => (Fr.k (Fr.k (Fr.ok hM6)))))))))))))
theorem bX7_ratio {M : Mem} (hM : KS SQr M0 M) : Fr SQr M0 (mX7_ratio 135 M) := by
  unfold mX7_ratio
  exact (Fr.bw (Or.inl ⟨rfl, by decide⟩) hM (fun M1 hM1 => (Fr.c (fun r4 => (Fr.ok hM1)))))
theorem bX7_springBack {M : Mem} (hM : KS SQr M0 M) : Fr SQr M0 (mX7_springBack 135 M) := by
  unfold mX7_springBack
  exact (Fr.bw (Or.inl ⟨rfl, by decide⟩) hM (fun M1 hM1 => (Fr.c (fun r4 => (Fr.c (fun r7 => (Fr.ok hM1)))))))
theorem bX7_springBackFor_b20 {x1 : UInt64} {y1 : Int32} {M : Mem} (hM : KS SQr M0 M) : Fr SQr M0 (mX7_springBackFor_b20 135 x1 y1 M) := by
  unfold mX7_springBackFor_b20
  exact (Fr.m (bX7_good hM) (fun M4 r3 hM4 => (Fr.i (Fr.ok hM4) (Fr.c (fun r7 => (Fr.ok hM4))))))
theorem bX7_springBackFor_b19 {x1 : UInt64} {M : Mem} (hM : KS SQr M0 M) : Fr SQr M0 (mX7_springBackFor_b19 135 x1 M) := by
  unfold mX7_springBackFor_b19
  exact (bX7_springBackFor_b20 hM)
theorem bX7_springBackFor {x1 : UInt64} {M : Mem} (hM : KS SQr M0 M) : Fr SQr M0 (mX7_springBackFor 135 x1 M) := by
  unfold mX7_springBackFor
  exact (Fr.i (bX7_springBackFor_b19 hM) (Fr.i (bX7_springBackFor_b19 hM) (bX7_springBackFor_b20 hM)))
theorem bX7_swingAngle {M : Mem} (hM : KS SQr M0 M) : Fr SQr M0 (mX7_swingAngle 135 M) := by
  unfold mX7_swingAngle
  exact (Fr.bw (Or.inl ⟨rfl, by decide⟩) hM (fun M1 hM1 => (Fr.c (fun r4 => (Fr.c (fun r7 => (Fr.k (Fr.ok hM1))))))))
theorem bX7_tool {x1 : Int32} {x2 : Int32} {M : Mem} (hM : KS SQr M0 M) : Fr SQr M0 (mX7_tool 135 x1 x2 M) := by
  unfold mX7_tool
  exact (Fr.c (fun r2 => (Fr.m (bX7_good hM) (fun M6 r5 hM6 => (Fr.i (Fr.ok hM6) (Fr.k (Fr.ok hM6)))))))
theorem bX7_isSymmetric {M : Mem} (hM : KS SQr M0 M) : Fr SQr M0 (mX7_isSymmetric 135 M) := by
  unfold mX7_isSymmetric
  exact (Fr.bw (Or.inl ⟨rfl, by decide⟩) hM (fun M1 hM1 => (Fr.k (Fr.c (fun r5 => (Fr.i (Fr.ok hM1) (Fr.k (Fr.c (fun r10 => (Fr.i (Fr.ok hM1) (Fr.ok hM1)))))))))))
theorem bX7_longestLeg_b48 {ih9 : Int32 → Int32 → Mem → Option (Mem × Int32)} {x2 : Int32} {y0 : Int32} {M : Mem} (hih9 : ∀ (v0 : Int32) (v1 : Int32) (v2 : Mem), KS SQr M0 v2 → Fr SQr M0 (ih9 v0 v1 v2)) (hM : KS SQr M0 M) : Fr SQr M0 (mX7_longestLeg_b48 135 ih9 x2 y0 M) := by
  unfold mX7_longestLeg_b48
  exact (Fr.b (fun x2_49 => (hih9 _ _ _ hM)))
theorem bX7_longestLeg_b43 {ih9 : Int32 → Int32 → Mem → Option (Mem × Int32)} {x2 : Int32} {M : Mem} (hih9 : ∀ (v0 : Int32) (v1 : Int32) (v2 : Mem), KS SQr M0 v2 → Fr SQr M0 (ih9 v0 v1 v2)) (hM : KS SQr M0 M) : Fr SQr M0 (mX7_longestLeg_b43 135 ih9 x2 M) := by
  unfold mX7_longestLeg_b43
  exact (bX7_longestLeg_b48 hih9 hM)
theorem bX7_longestLeg_b9 {ih9 : Int32 → Int32 → Mem → Option (Mem × Int32)} {x1 : Int32} {x2 : Int32} {M : Mem} (hih9 : ∀ (v0 : Int32) (v1 : Int32) (v2 : Mem), KS SQr M0 v2 → Fr SQr M0 (ih9 v0 v1 v2)) (hM : KS SQr M0 M) : Fr SQr M0 (mX7_longestLeg_b9 135 ih9 x1 x2 M) := by
  unfold mX7_longestLeg_b9
  exact (Fr.k (Fr.i (Fr.ok hM) (Fr.i (bX7_longestLeg_b43 hih9 hM) (Fr.k (Fr.k (Fr.i (bX7_longestLeg_b48 hih9 hM) (bX7_longestLeg_b43 hih9 hM)))))))
theorem bX7_longestLeg_l9_n  : ∀ (n : Nat) (v0 : Int32) (v1 : Int32) (v2 : Mem), KS SQr M0 v2 → Fr SQr M0 (mX7_longestLeg_l9 135 n v0 v1 v2) := by
  intro n
  induction n with
  | zero => intro v0 v1 v2 h; exact Fr.n
  | succ n IH => intro v0 v1 v2 h; exact bX7_longestLeg_b9  IH h
theorem bX7_longestLeg_l9  {v0 : Int32} {v1 : Int32} {v2 : Mem} {n : Nat} (h : KS SQr M0 v2) : Fr SQr M0 (mX7_longestLeg_l9 135 n v0 v1 v2) := bX7_longestLeg_l9_n   n v0 v1 v2 h
theorem bX7_longestLeg {M : Mem} (hM : KS SQr M0 M) : Fr SQr M0 (mX7_longestLeg 135 M) := by
  unfold mX7_longestLeg
  exact (Fr.bw (Or.inl ⟨rfl, by decide⟩) hM (fun M1 hM1 => (bX7_longestLeg_l9 hM1)))
theorem bX7_layLeg {x1 : Int32} {x2 : Int32} {M : Mem} (hM : KS SQr M0 M) : Fr SQr M0 (mX7_layLeg 135 x1 x2 M) := by
  unfold mX7_layLeg
  exact (Fr.k (Fr.bw (Or.inr (by decide)) hM (fun M3 hM3 => (Fr.k (Fr.bw (Or.inr (by decide)) hM3 (fun M6 hM6 => (Fr.c (fun r8 => (Fr.k (Fr.bw (Or.inl ⟨rfl, by decide⟩) hM6 (fun M11 hM11 => (Fr.c (fun r14 => (Fr.k (Fr.bw (Or.inl ⟨rfl, by decide⟩) hM11 (fun M17 hM17 => (Fr.k (Fr.bw (Or.inr (by decide)) hM17 (fun M21 hM21 => (Fr.k (Fr.bw (Or.inr (by decide)) hM21 (fun M24 hM24 => (Fr.ok hM24)))))))))))))))))))))))
theorem bX7_laySide_b136 {ih16 : Int32 → Int32 → Int32 → Int32 → Int32 → Int32 → Mem → Option (Mem × Unit)} {x2 : Int32} {x4 : Int32} {x5 : Int32} {x6 : Int32} {x7 : Int32} {x8 : Int32} {M : Mem} (hih16 : ∀ (v0 : Int32) (v1 : Int32) (v2 : Int32) (v3 : Int32) (v4 : Int32) (v5 : Int32) (v6 : Mem), KS SQr M0 v6 → Fr SQr M0 (ih16 v0 v1 v2 v3 v4 v5 v6)) (hM : KS SQr M0 M) : Fr SQr M0 (mX7_laySide_b136 135 ih16 x2 x4 x5 x6 x7 x8 M) := by
  unfold mX7_laySide_b136
  exact (Fr.b (fun x8_140 => (hih16 _ _ _ _ _ _ _ hM)))
theorem bX7_laySide_b131 {ih16 : Int32 → Int32 → Int32 → Int32 → Int32 → Int32 → Mem → Option (Mem × Unit)} {x2 : Int32} {x4 : Int32} {x5 : Int32} {x6 : Int32} {x8 : Int32} {y0 : Int32} {y1 : Int32} {M : Mem} (hih16 : ∀ (v0 : Int32) (v1 : Int32) (v2 : Int32) (v3 : Int32) (v4 : Int32) (v5 : Int32) (v6 : Mem), KS SQr M0 v6 → Fr SQr M0 (ih16 v0 v1 v2 v3 v4 v5 v6)) (hM : KS SQr M0 M) : Fr SQr M0 (mX7_laySide_b131 135 ih16 x2 x4 x5 x6 x8 y0 y1 M) := by
  unfold mX7_laySide_b131
  exact (Fr.b (fun x7_134 => (bX7_laySide_b136 hih16 hM)))
theorem bX7_laySide_b113 {ih16 : Int32 → Int32 → Int32 → Int32 → Int32 → Int32 → Mem → Option (Mem × Unit)} {x2 : Int32} {x4 : Int32} {x5 : Int32} {x6 : Int32} {x7 : Int32} {x8 : Int32} {y0 : Int32} {M : Mem} (hih16 : ∀ (v0 : Int32) (v1 : Int32) (v2 : Int32) (v3 : Int32) (v4 : Int32) (v5 : Int32) (v6 : Mem), KS SQr M0 v6 → Fr SQr M0 (ih16 v0 v1 v2 v3 v4 v5 v6)) (hM : KS SQr M0 M) : Fr SQr M0 (mX7_laySide_b113 135 ih16 x2 x4 x5 x6 x7 x8 y0 M) := by
  unfold mX7_laySide_b113
  exact (Fr.i (bX7_laySide_b131 hih16 hM) (bX7_laySide_b131 hih16 hM))
theorem bX7_laySide_b103 {ih16 : Int32 → Int32 → Int32 → Int32 → Int32 → Int32 → Mem → Option (Mem × Unit)} {x2 : Int32} {x4 : Int32} {x5 : Int32} {x6 : Int32} {x7 : Int32} {x8 : Int32} {y0 : Int32} {M : Mem} (hih16 : ∀ (v0 : Int32) (v1 : Int32) (v2 : Int32) (v3 : Int32) (v4 : Int32) (v5 : Int32) (v6 : Mem), KS SQr M0 v6 → Fr SQr M0 (ih16 v0 v1 v2 v3 v4 v5 v6)) (hM : KS SQr M0 M) : Fr SQr M0 (mX7_laySide_b103 135 ih16 x2 x4 x5 x6 x7 x8 y0 M) := by
  unfold mX7_laySide_b103
  exact (Fr.i (bX7_laySide_b113 hih16 hM) (bX7_laySide_b113 hih16 hM))
theorem bX7_laySide_b53 {ih16 : Int32 → Int32 → Int32 → Int32 → Int32 → Int32 → Mem → Option (Mem × Unit)} {x2 : Int32} {x4 : Int32} {x5 : Int32} {x6 : Int32} {x7 : Int32} {x8 : Int32} {y0 : Int32} {M : Mem} (hih16 : ∀ (v0 : Int32) (v1 : Int32) (v2 : Int32) (v3 : Int32) (v4 : Int32) (v5 : Int32) (v6 : Mem), KS SQr M0 v6 → Fr SQr M0 (ih16 v0 v1 v2 v3 v4 v5 v6)) (hM : KS SQr M0 M) : Fr SQr M0 (mX7_laySide_b53 135 ih16 x2 x4 x5 x6 x7 x8 y0 M) := by
  unfold mX7_laySide_b53
  exact (Fr.k (Fr.c (fun r14 => (Fr.i (bX7_laySide_b136 hih16 hM) (Fr.c (fun r19 => (Fr.i (bX7_laySide_b136 hih16 hM) (Fr.k (Fr.i (bX7_laySide_b103 hih16 hM) (bX7_laySide_b103 hih16 hM))))))))))
theorem bX7_laySide_b16 {ih16 : Int32 → Int32 → Int32 → Int32 → Int32 → Int32 → Mem → Option (Mem × Unit)} {x2 : Int32} {x4 : Int32} {x5 : Int32} {x6 : Int32} {x7 : Int32} {x8 : Int32} {M : Mem} (hih16 : ∀ (v0 : Int32) (v1 : Int32) (v2 : Int32) (v3 : Int32) (v4 : Int32) (v5 : Int32) (v6 : Mem), KS SQr M0 v6 → Fr SQr M0 (ih16 v0 v1 v2 v3 v4 v5 v6)) (hM : KS SQr M0 M) : Fr SQr M0 (mX7_laySide_b16 135 ih16 x2 x4 x5 x6 x7 x8 M) := by
  unfold mX7_laySide_b16
  exact (Fr.i (Fr.ok hM) (Fr.k (Fr.i (Fr.ok hM) (Fr.m (bX7_layLeg hM) (fun M10 _ hM10 => (Fr.i (bX7_laySide_b53 hih16 hM10) (bX7_laySide_b53 hih16 hM10)))))))
theorem bX7_laySide_l16_n  : ∀ (n : Nat) (v0 : Int32) (v1 : Int32) (v2 : Int32) (v3 : Int32) (v4 : Int32) (v5 : Int32) (v6 : Mem), KS SQr M0 v6 → Fr SQr M0 (mX7_laySide_l16 135 n v0 v1 v2 v3 v4 v5 v6) := by
  intro n
  induction n with
  | zero => intro v0 v1 v2 v3 v4 v5 v6 h; exact Fr.n
  | succ n IH => intro v0 v1 v2 v3 v4 v5 v6 h; exact bX7_laySide_b16  IH h
theorem bX7_laySide_l16  {v0 : Int32} {v1 : Int32} {v2 : Int32} {v3 : Int32} {v4 : Int32} {v5 : Int32} {v6 : Mem} {n : Nat} (h : KS SQr M0 v6) : Fr SQr M0 (mX7_laySide_l16 135 n v0 v1 v2 v3 v4 v5 v6) := bX7_laySide_l16_n   n v0 v1 v2 v3 v4 v5 v6 h
theorem bX7_laySide {x1 : Int32} {x2 : Int32} {x3 : Int32} {x4 : Int32} {x5 : Int32} {x6 : Int32} {M : Mem} (hM : KS SQr M0 M) : Fr SQr M0 (mX7_laySide 135 x1 x2 x3 x4 x5 x6 M) := by
  unfold mX7_laySide
  exact (Fr.bw (Or.inl ⟨rfl, by decide⟩) hM (fun M1 hM1 => (Fr.bw (Or.inl ⟨rfl, by decide⟩) hM1 (fun M3 hM3 => (bX7_laySide_l16 hM3)))))
theorem bX7_laySheet_b69 {x3 : Int32} {x4 : Int32} {y1 : Int32} {y2 : Int32} {y3 : Int32} {y4 : Int32} {M : Mem} (hM : KS SQr M0 M) : Fr SQr M0 (mX7_laySheet_b69 135 x3 x4 y1 y2 y3 y4 M) := by
  unfold mX7_laySheet_b69
  exact (Fr.m (bX7_laySide hM) (fun M12 _ hM12 => (Fr.ok hM12)))
theorem bX7_laySheet_b60 {x2 : Int32} {x3 : Int32} {x4 : Int32} {y1 : Int32} {y2 : Int32} {y3 : Int32} {M : Mem} (hM : KS SQr M0 M) : Fr SQr M0 (mX7_laySheet_b60 135 x2 x3 x4 y1 y2 y3 M) := by
  unfold mX7_laySheet_b60
  exact (Fr.i (bX7_laySheet_b69 hM) (bX7_laySheet_b69 hM))
theorem bX7_laySheet_b40 {x1 : Int32} {x2 : Int32} {x3 : Int32} {x4 : Int32} {y1 : Int32} {y2 : Int32} {y3 : Int32} {y4 : Int32} {M : Mem} (hM : KS SQr M0 M) : Fr SQr M0 (mX7_laySheet_b40 135 x1 x2 x3 x4 y1 y2 y3 y4 M) := by
  unfold mX7_laySheet_b40
  exact (Fr.m (bX7_laySide hM) (fun M7 _ hM7 => (Fr.i (bX7_laySheet_b60 hM7) (bX7_laySheet_b60 hM7))))
theorem bX7_laySheet_b31 {x1 : Int32} {x2 : Int32} {x3 : Int32} {x4 : Int32} {y1 : Int32} {y2 : Int32} {y3 : Int32} {M : Mem} (hM : KS SQr M0 M) : Fr SQr M0 (mX7_laySheet_b31 135 x1 x2 x3 x4 y1 y2 y3 M) := by
  unfold mX7_laySheet_b31
  exact (Fr.i (bX7_laySheet_b40 hM) (bX7_laySheet_b40 hM))
theorem bX7_laySheet_b17 {x1 : Int32} {x2 : Int32} {x3 : Int32} {y0 : Int32} {M : Mem} (hM : KS SQr M0 M) : Fr SQr M0 (mX7_laySheet_b17 135 x1 x2 x3 y0 M) := by
  unfold mX7_laySheet_b17
  exact (Fr.i (bX7_laySheet_b31 hM) (bX7_laySheet_b31 hM))
theorem bX7_laySheet {x1 : Int32} {x2 : Int32} {x3 : Int32} {M : Mem} (hM : KS SQr M0 M) : Fr SQr M0 (mX7_laySheet 135 x1 x2 x3 M) := by
  unfold mX7_laySheet
  exact (Fr.k (Fr.i (bX7_laySheet_b17 hM) (bX7_laySheet_b17 hM)))
theorem bX7_reasonOf {x1 : Int32} {x2 : Int32} {x3 : Int32} {M : Mem} (hM : KS SQr M0 M) : Fr SQr M0 (mX7_reasonOf 135 x1 x2 x3 M) := by
  unfold mX7_reasonOf
  exact (Fr.c (fun r2 => (Fr.i (Fr.c (fun r6 => (Fr.i (Fr.m (bX7_laySheet hM) (fun M11 _ hM11 => (Fr.c (fun r13 => (Fr.i (Fr.ok hM11) (Fr.c (fun r17 => (Fr.i (Fr.c (fun r21 => (Fr.i (Fr.c (fun r25 => (Fr.i (Fr.ok hM11) (Fr.ok hM11)))) (Fr.ok hM11)))) (Fr.ok hM11))))))))) (Fr.ok hM)))) (Fr.ok hM))))
theorem bX7_layFinished_b66 {ih14 : Int32 → Int32 → Mem → Option (Mem × Unit)} {x2 : Int32} {y0 : Int32} {M : Mem} (hih14 : ∀ (v0 : Int32) (v1 : Int32) (v2 : Mem), KS SQr M0 v2 → Fr SQr M0 (ih14 v0 v1 v2)) (hM : KS SQr M0 M) : Fr SQr M0 (mX7_layFinished_b66 135 ih14 x2 y0 M) := by
  unfold mX7_layFinished_b66
  exact (Fr.b (fun x2_67 => (hih14 _ _ _ hM)))
theorem bX7_layFinished_b63 {ih14 : Int32 → Int32 → Mem → Option (Mem × Unit)} {x2 : Int32} {y0 : Int32} {y1 : Int32} {M : Mem} (hih14 : ∀ (v0 : Int32) (v1 : Int32) (v2 : Mem), KS SQr M0 v2 → Fr SQr M0 (ih14 v0 v1 v2)) (hM : KS SQr M0 M) : Fr SQr M0 (mX7_layFinished_b63 135 ih14 x2 y0 y1 M) := by
  unfold mX7_layFinished_b63
  exact (bX7_layFinished_b66 hih14 hM)
theorem bX7_layFinished_b14 {ih14 : Int32 → Int32 → Mem → Option (Mem × Unit)} {x1 : Int32} {x2 : Int32} {M : Mem} (hih14 : ∀ (v0 : Int32) (v1 : Int32) (v2 : Mem), KS SQr M0 v2 → Fr SQr M0 (ih14 v0 v1 v2)) (hM : KS SQr M0 M) : Fr SQr M0 (mX7_layFinished_b14 135 ih14 x1 x2 M) := by
  unfold mX7_layFinished_b14
  exact (Fr.k (Fr.i (Fr.ok hM) (Fr.m (bX7_layLeg hM) (fun M9 _ hM9 => (Fr.k (Fr.i (bX7_layFinished_b66 hih14 hM9) (Fr.k (Fr.i (bX7_layFinished_b63 hih14 hM9) (bX7_layFinished_b63 hih14 hM9)))))))))
theorem bX7_layFinished_l14_n  : ∀ (n : Nat) (v0 : Int32) (v1 : Int32) (v2 : Mem), KS SQr M0 v2 → Fr SQr M0 (mX7_layFinished_l14 135 n v0 v1 v2) := by
  intro n
  induction n with
  | zero => intro v0 v1 v2 h; exact Fr.n
  | succ n IH => intro v0 v1 v2 h; exact bX7_layFinished_b14  IH h
theorem bX7_layFinished_l14  {v0 : Int32} {v1 : Int32} {v2 : Mem} {n : Nat} (h : KS SQr M0 v2) : Fr SQr M0 (mX7_layFinished_l14 135 n v0 v1 v2) := bX7_layFinished_l14_n   n v0 v1 v2 h
theorem bX7_layFinished {M : Mem} (hM : KS SQr M0 M) : Fr SQr M0 (mX7_layFinished 135 M) := by
  unfold mX7_layFinished
  exact (Fr.bw (Or.inl ⟨rfl, by decide⟩) hM (fun M1 hM1 => (Fr.bw (Or.inl ⟨rfl, by decide⟩) hM1 (fun M3 hM3 => (bX7_layFinished_l14 hM3)))))
theorem bX7_finishedWidth_b15 {ih15 : Int32 → Int32 → Int32 → Mem → Option (Mem × Int32)} {x1 : Int32} {x2 : Int32} {x3 : Int32} {M : Mem} (hih15 : ∀ (v0 : Int32) (v1 : Int32) (v2 : Int32) (v3 : Mem), KS SQr M0 v3 → Fr SQr M0 (ih15 v0 v1 v2 v3)) (hM : KS SQr M0 M) : Fr SQr M0 (mX7_finishedWidth_b15 135 ih15 x1 x2 x3 M) := by
  unfold mX7_finishedWidth_b15
  exact (Fr.k (Fr.i (Fr.ok hM) (Fr.k (Fr.b (fun x1_35 => (Fr.k (Fr.b (fun x2_46 => (Fr.b (fun x3_47 => (hih15 _ _ _ _ hM)))))))))))
theorem bX7_finishedWidth_l15_n  : ∀ (n : Nat) (v0 : Int32) (v1 : Int32) (v2 : Int32) (v3 : Mem), KS SQr M0 v3 → Fr SQr M0 (mX7_finishedWidth_l15 135 n v0 v1 v2 v3) := by
  intro n
  induction n with
  | zero => intro v0 v1 v2 v3 h; exact Fr.n
  | succ n IH => intro v0 v1 v2 v3 h; exact bX7_finishedWidth_b15  IH h
theorem bX7_finishedWidth_l15  {v0 : Int32} {v1 : Int32} {v2 : Int32} {v3 : Mem} {n : Nat} (h : KS SQr M0 v3) : Fr SQr M0 (mX7_finishedWidth_l15 135 n v0 v1 v2 v3) := bX7_finishedWidth_l15_n   n v0 v1 v2 v3 h
theorem bX7_finishedWidth {M : Mem} (hM : KS SQr M0 M) : Fr SQr M0 (mX7_finishedWidth 135 M) := by
  unfold mX7_finishedWidth
  exact (Fr.bw (Or.inl ⟨rfl, by decide⟩) hM (fun M1 hM1 => (Fr.m (bX7_layFinished hM1) (fun M5 _ hM5 => (bX7_finishedWidth_l15 hM5)))))
theorem bX7_finishedHeight_b15 {ih15 : Int32 → Int32 → Int32 → Mem → Option (Mem × Int32)} {x1 : Int32} {x2 : Int32} {x3 : Int32} {M : Mem} (hih15 : ∀ (v0 : Int32) (v1 : Int32) (v2 : Int32) (v3 : Mem), KS SQr M0 v3 → Fr SQr M0 (ih15 v0 v1 v2 v3)) (hM : KS SQr M0 M) : Fr SQr M0 (mX7_finishedHeight_b15 135 ih15 x1 x2 x3 M) := by
  unfold mX7_finishedHeight_b15
  exact (Fr.k (Fr.i (Fr.ok hM) (Fr.k (Fr.b (fun x1_35 => (Fr.k (Fr.b (fun x2_46 => (Fr.b (fun x3_47 => (hih15 _ _ _ _ hM)))))))))))
theorem bX7_finishedHeight_l15_n  : ∀ (n : Nat) (v0 : Int32) (v1 : Int32) (v2 : Int32) (v3 : Mem), KS SQr M0 v3 → Fr SQr M0 (mX7_finishedHeight_l15 135 n v0 v1 v2 v3) := by
  intro n
  induction n with
  | zero => intro v0 v1 v2 v3 h; exact Fr.n
  | succ n IH => intro v0 v1 v2 v3 h; exact bX7_finishedHeight_b15  IH h
theorem bX7_finishedHeight_l15  {v0 : Int32} {v1 : Int32} {v2 : Int32} {v3 : Mem} {n : Nat} (h : KS SQr M0 v3) : Fr SQr M0 (mX7_finishedHeight_l15 135 n v0 v1 v2 v3) := bX7_finishedHeight_l15_n   n v0 v1 v2 v3 h
theorem bX7_finishedHeight {M : Mem} (hM : KS SQr M0 M) : Fr SQr M0 (mX7_finishedHeight 135 M) := by
  unfold mX7_finishedHeight
  exact (Fr.bw (Or.inl ⟨rfl, by decide⟩) hM (fun M1 hM1 => (Fr.m (bX7_layFinished hM1) (fun M5 _ hM5 => (bX7_finishedHeight_l15 hM5)))))
theorem bX7_isFinishedCrossed {M : Mem} (hM : KS SQr M0 M) : Fr SQr M0 (mX7_isFinishedCrossed 135 M) := by
  unfold mX7_isFinishedCrossed
  exact (Fr.bw (Or.inl ⟨rfl, by decide⟩) hM (fun M1 hM1 => (Fr.m (bX7_layFinished hM1) (fun M5 _ hM5 => (Fr.c (fun r7 => (Fr.k (Fr.ok hM5))))))))
theorem bX7_finishedCorner {x1 : Int32} {x2 : Int32} {M : Mem} (hM : KS SQr M0 M) : Fr SQr M0 (mX7_finishedCorner 135 x1 x2 M) := by
  unfold mX7_finishedCorner
  exact (Fr.c (fun r2 => (Fr.c (fun r5 => (Fr.m (bX7_good_ hM) (fun M9 r8 hM9 => (Fr.i (Fr.ok hM9) (Fr.m (bX7_layFinished hM9) (fun M13 _ hM13 => (Fr.i (Fr.k (Fr.ok hM13)) (Fr.k (Fr.ok hM13))))))))))))
theorem bX7_made {M : Mem} (hM : KS SQr M0 M) : Fr SQr M0 (mX7_made 135 M) := by
  unfold mX7_made
  exact (Fr.m (bX7_tellNow hM) (fun M3 r2 hM3 => (Fr.ok hM3)))
theorem bX7_steps {M : Mem} (hM : KS SQr M0 M) : Fr SQr M0 (mX7_steps 135 M) := by
  unfold mX7_steps
  exact (Fr.m (bX7_tellNow hM) (fun M3 r2 hM3 => (Fr.ok hM3)))
theorem bX7_step {x1 : Int32} {x2 : Int32} {M : Mem} (hM : KS SQr M0 M) : Fr SQr M0 (mX7_step 135 x1 x2 M) := by
  unfold mX7_step
  exact (Fr.k (Fr.c (fun r3 => (Fr.c (fun r6 => (Fr.m (bX7_good_ hM) (fun M10 r9 hM10 => (Fr.i (Fr.ok hM10) (Fr.c (fun r13 => (Fr.ok hM10)))))))))))
theorem bX7_costSoFar {M : Mem} (hM : KS SQr M0 M) : Fr SQr M0 (mX7_costSoFar 135 M) := by
  unfold mX7_costSoFar
  exact (Fr.bw (Or.inl ⟨rfl, by decide⟩) hM (fun M1 hM1 => (Fr.c (fun r4 => (Fr.ok hM1)))))
theorem bX7_reason {x1 : Int32} {x2 : Int32} {M : Mem} (hM : KS SQr M0 M) : Fr SQr M0 (mX7_reason 135 x1 x2 M) := by
  unfold mX7_reason
  exact (Fr.c (fun r2 => (Fr.c (fun r5 => (Fr.m (bX7_good_ hM) (fun M9 r8 hM9 => (Fr.i (Fr.ok hM9) (Fr.k (Fr.m (bX7_reasonOf hM9) (fun M14 r13 hM14 => (Fr.ok hM14)))))))))))
theorem bX7_gaugeOf {x1 : Int32} {x2 : Int32} {x3 : Int32} {M : Mem} (hM : KS SQr M0 M) : Fr SQr M0 (mX7_gaugeOf 135 x1 x2 x3 M) := by
  unfold mX7_gaugeOf
  exact (Fr.m (bX7_laySheet hM) (fun M3 _ hM3 => (Fr.c (fun r5 => (Fr.ok hM3)))))
theorem bX7_gauge {x1 : Int32} {x2 : Int32} {M : Mem} (hM : KS SQr M0 M) : Fr SQr M0 (mX7_gauge 135 x1 x2 M) := by
  unfold mX7_gauge
  exact (Fr.c (fun r2 => (Fr.c (fun r5 => (Fr.m (bX7_good_ hM) (fun M9 r8 hM9 => (Fr.i (Fr.ok hM9) (Fr.k (Fr.m (bX7_gaugeOf hM9) (fun M14 r13 hM14 => (Fr.ok hM14)))))))))))
theorem bX7_corner_b45 {x1 : Int32} {x2 : Int32} {x3 : Int32} {x4 : Int32} {y1 : Int32} {y2 : Int32} {M : Mem} (hM : KS SQr M0 M) : Fr SQr M0 (mX7_corner_b45 135 x1 x2 x3 x4 y1 y2 M) := by
  unfold mX7_corner_b45
  exact (Fr.m (bX7_good_ hM) (fun M11 r10 hM11 => (Fr.i (Fr.ok hM11) (Fr.k (Fr.m (bX7_laySheet hM11) (fun M16 _ hM16 => (Fr.i (Fr.k (Fr.ok hM16)) (Fr.k (Fr.ok hM16)))))))))
theorem bX7_corner_b44 {x1 : Int32} {x2 : Int32} {x3 : Int32} {x4 : Int32} {y1 : Int32} {M : Mem} (hM : KS SQr M0 M) : Fr SQr M0 (mX7_corner_b44 135 x1 x2 x3 x4 y1 M) := by
  unfold mX7_corner_b44
  exact (bX7_corner_b45 hM)
theorem bX7_corner_b22 {x1 : Int32} {x2 : Int32} {x3 : Int32} {x4 : Int32} {y1 : Int32} {M : Mem} (hM : KS SQr M0 M) : Fr SQr M0 (mX7_corner_b22 135 x1 x2 x3 x4 y1 M) := by
  unfold mX7_corner_b22
  exact (Fr.c (fun r6 => (Fr.i (bX7_corner_b44 hM) (Fr.c (fun r21 => (Fr.i (bX7_corner_b44 hM) (bX7_corner_b45 hM)))))))
theorem bX7_corner_b21 {x1 : Int32} {x2 : Int32} {x3 : Int32} {x4 : Int32} {M : Mem} (hM : KS SQr M0 M) : Fr SQr M0 (mX7_corner_b21 135 x1 x2 x3 x4 M) := by
  unfold mX7_corner_b21
  exact (bX7_corner_b22 hM)
theorem bX7_corner {x1 : Int32} {x2 : Int32} {x3 : Int32} {x4 : Int32} {M : Mem} (hM : KS SQr M0 M) : Fr SQr M0 (mX7_corner 135 x1 x2 x3 x4 M) := by
  unfold mX7_corner
  exact (Fr.c (fun r2 => (Fr.i (bX7_corner_b21 hM) (Fr.c (fun r25 => (Fr.i (bX7_corner_b21 hM) (bX7_corner_b22 hM)))))))
theorem bX7_top_b73 {ih36 : Int32 → Int32 → Int32 → Int32 → Mem → Option (Mem × Int32)} {x1 : Int32} {x2 : Int32} {x4 : Int32} {y0 : Int32} {M : Mem} (hih36 : ∀ (v0 : Int32) (v1 : Int32) (v2 : Int32) (v3 : Int32) (v4 : Mem), KS SQr M0 v4 → Fr SQr M0 (ih36 v0 v1 v2 v3 v4)) (hM : KS SQr M0 M) : Fr SQr M0 (mX7_top_b73 135 ih36 x1 x2 x4 y0 M) := by
  unfold mX7_top_b73
  exact (Fr.b (fun x4_74 => (hih36 _ _ _ _ _ hM)))
theorem bX7_top_b36 {ih36 : Int32 → Int32 → Int32 → Int32 → Mem → Option (Mem × Int32)} {x1 : Int32} {x2 : Int32} {x3 : Int32} {x4 : Int32} {M : Mem} (hih36 : ∀ (v0 : Int32) (v1 : Int32) (v2 : Int32) (v3 : Int32) (v4 : Mem), KS SQr M0 v4 → Fr SQr M0 (ih36 v0 v1 v2 v3 v4)) (hM : KS SQr M0 M) : Fr SQr M0 (mX7_top_b36 135 ih36 x1 x2 x3 x4 M) := by
  unfold mX7_top_b36
  exact (Fr.k (Fr.i (Fr.ok hM) (Fr.c (fun r18 => (Fr.i (Fr.k (bX7_top_b73 hih36 hM)) (bX7_top_b73 hih36 hM))))))
theorem bX7_top_l36_n  : ∀ (n : Nat) (v0 : Int32) (v1 : Int32) (v2 : Int32) (v3 : Int32) (v4 : Mem), KS SQr M0 v4 → Fr SQr M0 (mX7_top_l36 135 n v0 v1 v2 v3 v4) := by
  intro n
  induction n with
  | zero => intro v0 v1 v2 v3 v4 h; exact Fr.n
  | succ n IH => intro v0 v1 v2 v3 v4 h; exact bX7_top_b36  IH h
theorem bX7_top_l36  {v0 : Int32} {v1 : Int32} {v2 : Int32} {v3 : Int32} {v4 : Mem} {n : Nat} (h : KS SQr M0 v4) : Fr SQr M0 (mX7_top_l36 135 n v0 v1 v2 v3 v4) := bX7_top_l36_n   n v0 v1 v2 v3 v4 h
theorem bX7_top {x1 : Int32} {x2 : Int32} {M : Mem} (hM : KS SQr M0 M) : Fr SQr M0 (mX7_top 135 x1 x2 M) := by
  unfold mX7_top
  exact (Fr.c (fun r2 => (Fr.c (fun r5 => (Fr.m (bX7_good_ hM) (fun M9 r8 hM9 => (Fr.i (Fr.ok hM9) (Fr.k (Fr.m (bX7_laySheet hM9) (fun M14 _ hM14 => (bX7_top_l36 hM14)))))))))))
theorem bX7_hitting {x1 : Int32} {x2 : Int32} {M : Mem} (hM : KS SQr M0 M) : Fr SQr M0 (mX7_hitting 135 x1 x2 M) := by
  unfold mX7_hitting
  exact (Fr.c (fun r2 => (Fr.c (fun r5 => (Fr.m (bX7_good_ hM) (fun M9 r8 hM9 => (Fr.i (Fr.ok hM9) (Fr.k (Fr.m (bX7_laySheet hM9) (fun M14 _ hM14 => (Fr.c (fun r16 => (Fr.ok hM14)))))))))))))
theorem bX7_refused_b61 {ih22 : Int32 → Int32 → Int32 → Mem → Option (Mem × Int32)} {x1 : Int32} {x3 : Int32} {y0 : Int32} {y1 : Int32} {M : Mem} (hih22 : ∀ (v0 : Int32) (v1 : Int32) (v2 : Int32) (v3 : Mem), KS SQr M0 v3 → Fr SQr M0 (ih22 v0 v1 v2 v3)) (hM : KS SQr M0 M) : Fr SQr M0 (mX7_refused_b61 135 ih22 x1 x3 y0 y1 M) := by
  unfold mX7_refused_b61
  exact (Fr.b (fun x2_62 => (Fr.b (fun x3_63 => (hih22 _ _ _ _ hM)))))
theorem bX7_refused_b22 {ih22 : Int32 → Int32 → Int32 → Mem → Option (Mem × Int32)} {x1 : Int32} {x2 : Int32} {x3 : Int32} {M : Mem} (hih22 : ∀ (v0 : Int32) (v1 : Int32) (v2 : Int32) (v3 : Mem), KS SQr M0 v3 → Fr SQr M0 (ih22 v0 v1 v2 v3)) (hM : KS SQr M0 M) : Fr SQr M0 (mX7_refused_b22 135 ih22 x1 x2 x3 M) := by
  unfold mX7_refused_b22
  exact (Fr.k (Fr.i (Fr.ok hM) (Fr.k (Fr.m (bX7_reasonOf hM) (fun M13 r12 hM13 => (Fr.i (bX7_refused_b61 hih22 hM13) (bX7_refused_b61 hih22 hM13)))))))
theorem bX7_refused_l22_n  : ∀ (n : Nat) (v0 : Int32) (v1 : Int32) (v2 : Int32) (v3 : Mem), KS SQr M0 v3 → Fr SQr M0 (mX7_refused_l22 135 n v0 v1 v2 v3) := by
  intro n
  induction n with
  | zero => intro v0 v1 v2 v3 h; exact Fr.n
  | succ n IH => intro v0 v1 v2 v3 h; exact bX7_refused_b22  IH h
theorem bX7_refused_l22  {v0 : Int32} {v1 : Int32} {v2 : Int32} {v3 : Mem} {n : Nat} (h : KS SQr M0 v3) : Fr SQr M0 (mX7_refused_l22 135 n v0 v1 v2 v3) := bX7_refused_l22_n   n v0 v1 v2 v3 h
theorem bX7_refused {x1 : Int32} {M : Mem} (hM : KS SQr M0 M) : Fr SQr M0 (mX7_refused 135 x1 M) := by
  unfold mX7_refused
  exact (Fr.c (fun r2 => (Fr.m (bX7_good hM) (fun M6 r5 hM6 => (Fr.i (Fr.ok hM6) (bX7_refused_l22 hM6))))))
theorem bX7_possible_b49 {ih9 : Int32 → Int32 → Mem → Option (Mem × Int32)} {x2 : Int32} {y0 : Int32} {y1 : Int32} {M : Mem} (hih9 : ∀ (v0 : Int32) (v1 : Int32) (v2 : Mem), KS SQr M0 v2 → Fr SQr M0 (ih9 v0 v1 v2)) (hM : KS SQr M0 M) : Fr SQr M0 (mX7_possible_b49 135 ih9 x2 y0 y1 M) := by
  unfold mX7_possible_b49
  exact (Fr.b (fun x1_50 => (Fr.b (fun x2_51 => (hih9 _ _ _ hM)))))
theorem bX7_possible_b9 {ih9 : Int32 → Int32 → Mem → Option (Mem × Int32)} {x1 : Int32} {x2 : Int32} {M : Mem} (hih9 : ∀ (v0 : Int32) (v1 : Int32) (v2 : Mem), KS SQr M0 v2 → Fr SQr M0 (ih9 v0 v1 v2)) (hM : KS SQr M0 M) : Fr SQr M0 (mX7_possible_b9 135 ih9 x1 x2 M) := by
  unfold mX7_possible_b9
  exact (Fr.k (Fr.i (Fr.ok hM) (Fr.k (Fr.m (bX7_reasonOf hM) (fun M8 r7 hM8 => (Fr.i (bX7_possible_b49 hih9 hM8) (bX7_possible_b49 hih9 hM8)))))))
theorem bX7_possible_l9_n  : ∀ (n : Nat) (v0 : Int32) (v1 : Int32) (v2 : Mem), KS SQr M0 v2 → Fr SQr M0 (mX7_possible_l9 135 n v0 v1 v2) := by
  intro n
  induction n with
  | zero => intro v0 v1 v2 h; exact Fr.n
  | succ n IH => intro v0 v1 v2 h; exact bX7_possible_b9  IH h
theorem bX7_possible_l9  {v0 : Int32} {v1 : Int32} {v2 : Mem} {n : Nat} (h : KS SQr M0 v2) : Fr SQr M0 (mX7_possible_l9 135 n v0 v1 v2) := bX7_possible_l9_n   n v0 v1 v2 h
theorem bX7_possible {M : Mem} (hM : KS SQr M0 M) : Fr SQr M0 (mX7_possible 135 M) := by
  unfold mX7_possible
  exact (Fr.bw (Or.inl ⟨rfl, by decide⟩) hM (fun M1 hM1 => (bX7_possible_l9 hM1)))
theorem bX7_stuck_b71 {ih9 : Int32 → Int32 → Mem → Option (Mem × Int32)} {x2 : Int32} {y0 : Int32} {y1 : Int32} {M : Mem} (hih9 : ∀ (v0 : Int32) (v1 : Int32) (v2 : Mem), KS SQr M0 v2 → Fr SQr M0 (ih9 v0 v1 v2)) (hM : KS SQr M0 M) : Fr SQr M0 (mX7_stuck_b71 135 ih9 x2 y0 y1 M) := by
  unfold mX7_stuck_b71
  exact (Fr.b (fun x1_72 => (Fr.b (fun x2_73 => (hih9 _ _ _ hM)))))
theorem bX7_stuck_b70 {ih9 : Int32 → Int32 → Mem → Option (Mem × Int32)} {x2 : Int32} {y0 : Int32} {M : Mem} (hih9 : ∀ (v0 : Int32) (v1 : Int32) (v2 : Mem), KS SQr M0 v2 → Fr SQr M0 (ih9 v0 v1 v2)) (hM : KS SQr M0 M) : Fr SQr M0 (mX7_stuck_b70 135 ih9 x2 y0 M) := by
  unfold mX7_stuck_b70
  exact (bX7_stuck_b71 hih9 hM)
theorem bX7_stuck_b9 {ih9 : Int32 → Int32 → Mem → Option (Mem × Int32)} {x1 : Int32} {x2 : Int32} {M : Mem} (hih9 : ∀ (v0 : Int32) (v1 : Int32) (v2 : Mem), KS SQr M0 v2 → Fr SQr M0 (ih9 v0 v1 v2)) (hM : KS SQr M0 M) : Fr SQr M0 (mX7_stuck_b9 135 ih9 x1 x2 M) := by
  unfold mX7_stuck_b9
  exact (Fr.k (Fr.i (Fr.ok hM) (Fr.k (Fr.c (fun r7 => (Fr.i (Fr.k (Fr.m (bX7_reasonOf hM) (fun M15 r14 hM15 => (Fr.i (bX7_stuck_b70 hih9 hM15) (Fr.k (Fr.m (bX7_reasonOf hM15) (fun M20 r19 hM20 => (Fr.i (bX7_stuck_b70 hih9 hM20) (bX7_stuck_b71 hih9 hM20))))))))) (bX7_stuck_b70 hih9 hM)))))))
theorem bX7_stuck_l9_n  : ∀ (n : Nat) (v0 : Int32) (v1 : Int32) (v2 : Mem), KS SQr M0 v2 → Fr SQr M0 (mX7_stuck_l9 135 n v0 v1 v2) := by
  intro n
  induction n with
  | zero => intro v0 v1 v2 h; exact Fr.n
  | succ n IH => intro v0 v1 v2 h; exact bX7_stuck_b9  IH h
theorem bX7_stuck_l9  {v0 : Int32} {v1 : Int32} {v2 : Mem} {n : Nat} (h : KS SQr M0 v2) : Fr SQr M0 (mX7_stuck_l9 135 n v0 v1 v2) := bX7_stuck_l9_n   n v0 v1 v2 h
theorem bX7_stuck {M : Mem} (hM : KS SQr M0 M) : Fr SQr M0 (mX7_stuck 135 M) := by
  unfold mX7_stuck
  exact (Fr.bw (Or.inl ⟨rfl, by decide⟩) hM (fun M1 hM1 => (bX7_stuck_l9 hM1)))
theorem bX7_costNow {x1 : Int32} {x2 : Int32} {M : Mem} (hM : KS SQr M0 M) : Fr SQr M0 (mX7_costNow 135 x1 x2 M) := by
  unfold mX7_costNow
  exact (Fr.k (Fr.i (Fr.ok hM) (Fr.k (Fr.b (fun x3_21 => (Fr.c (fun r6 => (Fr.c (fun r9 => (Fr.c (fun r12 => (Fr.k (Fr.m (bX7_gaugeOf hM) (fun M17 r16 hM17 => (Fr.c (fun r19 => (Fr.ok hM17)))))))))))))))))
theorem bX7_costOf {x1 : Int32} {x2 : Int32} {M : Mem} (hM : KS SQr M0 M) : Fr SQr M0 (mX7_costOf 135 x1 x2 M) := by
  unfold mX7_costOf
  exact (Fr.c (fun r2 => (Fr.c (fun r5 => (Fr.m (bX7_good_ hM) (fun M9 r8 hM9 => (Fr.i (Fr.ok hM9) (Fr.m (bX7_costNow hM9) (fun M13 r12 hM13 => (Fr.ok hM13))))))))))
theorem bX7_layOrders_b117 {ih5 : Int32 → Mem → Option (Mem × Unit)} {x1 : Int32} {M : Mem} (hih5 : ∀ (v0 : Int32) (v1 : Mem), KS SQr M0 v1 → Fr SQr M0 (ih5 v0 v1)) (hM : KS SQr M0 M) : Fr SQr M0 (mX7_layOrders_b117 135 ih5 x1 M) := by
  unfold mX7_layOrders_b117
  exact (Fr.b (fun x1_117 => (hih5 _ _ hM)))
theorem bX7_layOrders_b109 {ih5 : Int32 → Mem → Option (Mem × Unit)} {ih30 : Int32 → Int32 → Mem → Option (Mem × Unit)} {x1 : Int32} {x2 : Int32} {y1 : Int32} {y2 : Int64} {y3 : Int64} {M : Mem} (hih5 : ∀ (v0 : Int32) (v1 : Mem), KS SQr M0 v1 → Fr SQr M0 (ih5 v0 v1)) (hih30 : ∀ (v0 : Int32) (v1 : Int32) (v2 : Mem), KS SQr M0 v2 → Fr SQr M0 (ih30 v0 v1 v2)) (hM : KS SQr M0 M) : Fr SQr M0 (mX7_layOrders_b109 135 ih5 ih30 x1 x2 y1 y2 y3 M) := by
  unfold mX7_layOrders_b109
  exact (Fr.k (Fr.bl hM (fun M30 hM30 => (Fr.b (fun x2_111 => (hih30 _ _ _ hM30))))))
theorem bX7_layOrders_b69 {ih5 : Int32 → Mem → Option (Mem × Unit)} {ih30 : Int32 → Int32 → Mem → Option (Mem × Unit)} {x1 : Int32} {x2 : Int32} {y0 : Int32} {M : Mem} (hih5 : ∀ (v0 : Int32) (v1 : Mem), KS SQr M0 v1 → Fr SQr M0 (ih5 v0 v1)) (hih30 : ∀ (v0 : Int32) (v1 : Int32) (v2 : Mem), KS SQr M0 v2 → Fr SQr M0 (ih30 v0 v1 v2)) (hM : KS SQr M0 M) : Fr SQr M0 (mX7_layOrders_b69 135 ih5 ih30 x1 x2 y0 M) := by
  unfold mX7_layOrders_b69
  exact (Fr.k (Fr.bw (Or.inr (by decide)) hM (fun M25 hM25 => (Fr.k (Fr.i (bX7_layOrders_b109 hih5 hih30 hM25) (Fr.k (bX7_layOrders_b109 hih5 hih30 hM25)))))))
theorem bX7_layOrders_b30 {ih5 : Int32 → Mem → Option (Mem × Unit)} {ih30 : Int32 → Int32 → Mem → Option (Mem × Unit)} {x1 : Int32} {x2 : Int32} {M : Mem} (hih5 : ∀ (v0 : Int32) (v1 : Mem), KS SQr M0 v1 → Fr SQr M0 (ih5 v0 v1)) (hih30 : ∀ (v0 : Int32) (v1 : Int32) (v2 : Mem), KS SQr M0 v2 → Fr SQr M0 (ih30 v0 v1 v2)) (hM : KS SQr M0 M) : Fr SQr M0 (mX7_layOrders_b30 135 ih5 ih30 x1 x2 M) := by
  unfold mX7_layOrders_b30
  exact (Fr.k (Fr.i (bX7_layOrders_b117 hih5 hM) (Fr.c (fun r16 => (Fr.i (bX7_layOrders_b117 hih5 hM) (Fr.m (bX7_reasonOf hM) (fun M21 r20 hM21 => (Fr.i (bX7_layOrders_b69 hih5 hih30 hM21) (bX7_layOrders_b69 hih5 hih30 hM21)))))))))
theorem bX7_layOrders_l30_n {ih5 : Int32 → Mem → Option (Mem × Unit)} (hih5 : ∀ (u0 : Int32) (u1 : Mem), KS SQr M0 u1 → Fr SQr M0 (ih5 u0 u1)) : ∀ (n : Nat) (v0 : Int32) (v1 : Int32) (v2 : Mem), KS SQr M0 v2 → Fr SQr M0 (mX7_layOrders_l30 135 ih5 n v0 v1 v2) := by
  intro n
  induction n with
  | zero => intro v0 v1 v2 h; exact Fr.n
  | succ n IH => intro v0 v1 v2 h; exact bX7_layOrders_b30  hih5 IH h
theorem bX7_layOrders_l30 {ih5 : Int32 → Mem → Option (Mem × Unit)} {v0 : Int32} {v1 : Int32} {v2 : Mem} (hih5 : ∀ (u0 : Int32) (u1 : Mem), KS SQr M0 u1 → Fr SQr M0 (ih5 u0 u1)) {n : Nat} (h : KS SQr M0 v2) : Fr SQr M0 (mX7_layOrders_l30 135 ih5 n v0 v1 v2) := bX7_layOrders_l30_n  hih5 n v0 v1 v2 h
theorem bX7_layOrders_b27 {ih5 : Int32 → Mem → Option (Mem × Unit)} {x1 : Int32} {y1 : Int32} {y2 : Int64} {M : Mem} (hih5 : ∀ (v0 : Int32) (v1 : Mem), KS SQr M0 v1 → Fr SQr M0 (ih5 v0 v1)) (hM : KS SQr M0 M) : Fr SQr M0 (mX7_layOrders_b27 135 ih5 x1 y1 y2 M) := by
  unfold mX7_layOrders_b27
  exact (Fr.k (Fr.bl hM (fun M11 hM11 => (bX7_layOrders_l30 hih5 hM11))))
theorem bX7_layOrders_b5 {ih5 : Int32 → Mem → Option (Mem × Unit)} {x1 : Int32} {M : Mem} (hih5 : ∀ (v0 : Int32) (v1 : Mem), KS SQr M0 v1 → Fr SQr M0 (ih5 v0 v1)) (hM : KS SQr M0 M) : Fr SQr M0 (mX7_layOrders_b5 135 ih5 x1 M) := by
  unfold mX7_layOrders_b5
  exact (Fr.i (Fr.ok hM) (Fr.c (fun r6 => (Fr.i (bX7_layOrders_b27 hih5 hM) (bX7_layOrders_b27 hih5 hM)))))
theorem bX7_layOrders_l5_n  : ∀ (n : Nat) (v0 : Int32) (v1 : Mem), KS SQr M0 v1 → Fr SQr M0 (mX7_layOrders_l5 135 n v0 v1) := by
  intro n
  induction n with
  | zero => intro v0 v1 h; exact Fr.n
  | succ n IH => intro v0 v1 h; exact bX7_layOrders_b5  IH h
theorem bX7_layOrders_l5  {v0 : Int32} {v1 : Mem} {n : Nat} (h : KS SQr M0 v1) : Fr SQr M0 (mX7_layOrders_l5 135 n v0 v1) := bX7_layOrders_l5_n   n v0 v1 h
theorem bX7_layOrders {M : Mem} (hM : KS SQr M0 M) : Fr SQr M0 (mX7_layOrders 135 M) := by
  unfold mX7_layOrders
  exact (Fr.c (fun r2 => (bX7_layOrders_l5 hM)))
theorem bX7_layCost_b165 {ih36 : Int32 → Int32 → Int32 → Int32 → Int32 → Mem → Option (Mem × Unit)} {x1 : Int32} {x2 : Int32} {x3 : Int32} {x4 : Int32} {x5 : Int32} {M : Mem} (hih36 : ∀ (v0 : Int32) (v1 : Int32) (v2 : Int32) (v3 : Int32) (v4 : Int32) (v5 : Mem), KS SQr M0 v5 → Fr SQr M0 (ih36 v0 v1 v2 v3 v4 v5)) (hM : KS SQr M0 M) : Fr SQr M0 (mX7_layCost_b165 135 ih36 x1 x2 x3 x4 x5 M) := by
  unfold mX7_layCost_b165
  exact (Fr.b (fun x5_165 => (hih36 _ _ _ _ _ _ hM)))
theorem bX7_layCost_b117 {ih36 : Int32 → Int32 → Int32 → Int32 → Int32 → Mem → Option (Mem × Unit)} {x1 : Int32} {x2 : Int32} {x3 : Int32} {x4 : Int32} {x5 : Int32} {x6 : Int32} {y0 : Int32} {M : Mem} (hih36 : ∀ (v0 : Int32) (v1 : Int32) (v2 : Int32) (v3 : Int32) (v4 : Int32) (v5 : Mem), KS SQr M0 v5 → Fr SQr M0 (ih36 v0 v1 v2 v3 v4 v5)) (hM : KS SQr M0 M) : Fr SQr M0 (mX7_layCost_b117 135 ih36 x1 x2 x3 x4 x5 x6 y0 M) := by
  unfold mX7_layCost_b117
  exact (Fr.b (fun x8_131 => (Fr.k (Fr.b (fun x3_147 => (Fr.k (Fr.b (fun x4_163 => (bX7_layCost_b165 hih36 hM)))))))))
theorem bX7_layCost_b36 {ih36 : Int32 → Int32 → Int32 → Int32 → Int32 → Mem → Option (Mem × Unit)} {x1 : Int32} {x2 : Int32} {x3 : Int32} {x4 : Int32} {x5 : Int32} {M : Mem} (hih36 : ∀ (v0 : Int32) (v1 : Int32) (v2 : Int32) (v3 : Int32) (v4 : Int32) (v5 : Mem), KS SQr M0 v5 → Fr SQr M0 (ih36 v0 v1 v2 v3 v4 v5)) (hM : KS SQr M0 M) : Fr SQr M0 (mX7_layCost_b36 135 ih36 x1 x2 x3 x4 x5 M) := by
  unfold mX7_layCost_b36
  exact (Fr.k (Fr.i (Fr.k (Fr.bw (Or.inr (by decide)) hM (fun M13 hM13 => (Fr.k (Fr.bw (Or.inr (by decide)) hM13 (fun M16 hM16 => (Fr.ok hM16))))))) (Fr.k (Fr.i (bX7_layCost_b165 hih36 hM) (Fr.b (fun x6_71 => (Fr.i (bX7_layCost_b117 hih36 hM) (Fr.c (fun r22 => (Fr.k (Fr.c (fun r26 => (bX7_layCost_b117 hih36 hM)))))))))))))
theorem bX7_layCost_l36_n  : ∀ (n : Nat) (v0 : Int32) (v1 : Int32) (v2 : Int32) (v3 : Int32) (v4 : Int32) (v5 : Mem), KS SQr M0 v5 → Fr SQr M0 (mX7_layCost_l36 135 n v0 v1 v2 v3 v4 v5) := by
  intro n
  induction n with
  | zero => intro v0 v1 v2 v3 v4 v5 h; exact Fr.n
  | succ n IH => intro v0 v1 v2 v3 v4 v5 h; exact bX7_layCost_b36  IH h
theorem bX7_layCost_l36  {v0 : Int32} {v1 : Int32} {v2 : Int32} {v3 : Int32} {v4 : Int32} {v5 : Mem} {n : Nat} (h : KS SQr M0 v5) : Fr SQr M0 (mX7_layCost_l36 135 n v0 v1 v2 v3 v4 v5) := bX7_layCost_l36_n   n v0 v1 v2 v3 v4 v5 h
theorem bX7_layCost_b31 {x1 : Int32} {x2 : Int32} {x3 : Int32} {y0 : Int32} {M : Mem} (hM : KS SQr M0 M) : Fr SQr M0 (mX7_layCost_b31 135 x1 x2 x3 y0 M) := by
  unfold mX7_layCost_b31
  exact (bX7_layCost_l36 hM)
theorem bX7_layCost_b15 {x1 : Int32} {x2 : Int32} {y0 : Int32} {M : Mem} (hM : KS SQr M0 M) : Fr SQr M0 (mX7_layCost_b15 135 x1 x2 y0 M) := by
  unfold mX7_layCost_b15
  exact (Fr.c (fun r6 => (Fr.i (bX7_layCost_b31 hM) (bX7_layCost_b31 hM))))
theorem bX7_layCost {x1 : Int32} {x2 : Int32} {M : Mem} (hM : KS SQr M0 M) : Fr SQr M0 (mX7_layCost 135 x1 x2 M) := by
  unfold mX7_layCost
  exact (Fr.c (fun r2 => (Fr.i (bX7_layCost_b15 hM) (bX7_layCost_b15 hM))))
theorem bX7_layCosts_b127 {ih67 : Int32 → Mem → Option (Mem × Unit)} {x1 : Int32} {M : Mem} (hih67 : ∀ (v0 : Int32) (v1 : Mem), KS SQr M0 v1 → Fr SQr M0 (ih67 v0 v1)) (hM : KS SQr M0 M) : Fr SQr M0 (mX7_layCosts_b127 135 ih67 x1 M) := by
  unfold mX7_layCosts_b127
  exact (Fr.b (fun x1_127 => (hih67 _ _ hM)))
theorem bX7_layCosts_b121 {ih67 : Int32 → Mem → Option (Mem × Unit)} {ih73 : Int32 → Int32 → Mem → Option (Mem × Unit)} {x1 : Int32} {x2 : Int32} {M : Mem} (hih67 : ∀ (v0 : Int32) (v1 : Mem), KS SQr M0 v1 → Fr SQr M0 (ih67 v0 v1)) (hih73 : ∀ (v0 : Int32) (v1 : Int32) (v2 : Mem), KS SQr M0 v2 → Fr SQr M0 (ih73 v0 v1 v2)) (hM : KS SQr M0 M) : Fr SQr M0 (mX7_layCosts_b121 135 ih67 ih73 x1 x2 M) := by
  unfold mX7_layCosts_b121
  exact (Fr.b (fun x2_121 => (hih73 _ _ _ hM)))
theorem bX7_layCosts_b115 {ih67 : Int32 → Mem → Option (Mem × Unit)} {ih73 : Int32 → Int32 → Mem → Option (Mem × Unit)} {x1 : Int32} {x2 : Int32} {M : Mem} (hih67 : ∀ (v0 : Int32) (v1 : Mem), KS SQr M0 v1 → Fr SQr M0 (ih67 v0 v1)) (hih73 : ∀ (v0 : Int32) (v1 : Int32) (v2 : Mem), KS SQr M0 v2 → Fr SQr M0 (ih73 v0 v1 v2)) (hM : KS SQr M0 M) : Fr SQr M0 (mX7_layCosts_b115 135 ih67 ih73 x1 x2 M) := by
  unfold mX7_layCosts_b115
  exact (Fr.m (bX7_layCost hM) (fun M21 _ hM21 => (bX7_layCosts_b121 hih67 hih73 hM21)))
theorem bX7_layCosts_b73 {ih67 : Int32 → Mem → Option (Mem × Unit)} {ih73 : Int32 → Int32 → Mem → Option (Mem × Unit)} {x1 : Int32} {x2 : Int32} {M : Mem} (hih67 : ∀ (v0 : Int32) (v1 : Mem), KS SQr M0 v1 → Fr SQr M0 (ih67 v0 v1)) (hih73 : ∀ (v0 : Int32) (v1 : Int32) (v2 : Mem), KS SQr M0 v2 → Fr SQr M0 (ih73 v0 v1 v2)) (hM : KS SQr M0 M) : Fr SQr M0 (mX7_layCosts_b73 135 ih67 ih73 x1 x2 M) := by
  unfold mX7_layCosts_b73
  exact (Fr.i (bX7_layCosts_b127 hih67 hM) (Fr.c (fun r15 => (Fr.i (bX7_layCosts_b127 hih67 hM) (Fr.i (bX7_layCosts_b115 hih67 hih73 hM) (Fr.k (Fr.i (bX7_layCosts_b121 hih67 hih73 hM) (Fr.c (fun r26 => (Fr.i (bX7_layCosts_b121 hih67 hih73 hM) (bX7_layCosts_b115 hih67 hih73 hM)))))))))))
theorem bX7_layCosts_l73_n {ih67 : Int32 → Mem → Option (Mem × Unit)} (hih67 : ∀ (u0 : Int32) (u1 : Mem), KS SQr M0 u1 → Fr SQr M0 (ih67 u0 u1)) : ∀ (n : Nat) (v0 : Int32) (v1 : Int32) (v2 : Mem), KS SQr M0 v2 → Fr SQr M0 (mX7_layCosts_l73 135 ih67 n v0 v1 v2) := by
  intro n
  induction n with
  | zero => intro v0 v1 v2 h; exact Fr.n
  | succ n IH => intro v0 v1 v2 h; exact bX7_layCosts_b73  hih67 IH h
theorem bX7_layCosts_l73 {ih67 : Int32 → Mem → Option (Mem × Unit)} {v0 : Int32} {v1 : Int32} {v2 : Mem} (hih67 : ∀ (u0 : Int32) (u1 : Mem), KS SQr M0 u1 → Fr SQr M0 (ih67 u0 u1)) {n : Nat} (h : KS SQr M0 v2) : Fr SQr M0 (mX7_layCosts_l73 135 ih67 n v0 v1 v2) := bX7_layCosts_l73_n  hih67 n v0 v1 v2 h
theorem bX7_layCosts_b67 {ih67 : Int32 → Mem → Option (Mem × Unit)} {x1 : Int32} {M : Mem} (hih67 : ∀ (v0 : Int32) (v1 : Mem), KS SQr M0 v1 → Fr SQr M0 (ih67 v0 v1)) (hM : KS SQr M0 M) : Fr SQr M0 (mX7_layCosts_b67 135 ih67 x1 M) := by
  unfold mX7_layCosts_b67
  exact (Fr.i (Fr.ok hM) (bX7_layCosts_l73 hih67 hM))
theorem bX7_layCosts_l67_n  : ∀ (n : Nat) (v0 : Int32) (v1 : Mem), KS SQr M0 v1 → Fr SQr M0 (mX7_layCosts_l67 135 n v0 v1) := by
  intro n
  induction n with
  | zero => intro v0 v1 h; exact Fr.n
  | succ n IH => intro v0 v1 h; exact bX7_layCosts_b67  IH h
theorem bX7_layCosts_l67  {v0 : Int32} {v1 : Mem} {n : Nat} (h : KS SQr M0 v1) : Fr SQr M0 (mX7_layCosts_l67 135 n v0 v1) := bX7_layCosts_l67_n   n v0 v1 h
theorem bX7_layCosts_b16 {ih6 : Int32 → Mem → Option (Mem × Unit)} {ih16 : Int32 → Int32 → Mem → Option (Mem × Unit)} {x1 : Int32} {x2 : Int32} {M : Mem} (hih6 : ∀ (v0 : Int32) (v1 : Mem), KS SQr M0 v1 → Fr SQr M0 (ih6 v0 v1)) (hih16 : ∀ (v0 : Int32) (v1 : Int32) (v2 : Mem), KS SQr M0 v2 → Fr SQr M0 (ih16 v0 v1 v2)) (hM : KS SQr M0 M) : Fr SQr M0 (mX7_layCosts_b16 135 ih6 ih16 x1 x2 M) := by
  unfold mX7_layCosts_b16
  exact (Fr.k (Fr.i (Fr.b (fun x1_56 => (hih6 _ _ hM))) (Fr.m (bX7_gaugeOf hM) (fun M34 r33 hM34 => (Fr.k (Fr.bw (Or.inr (by decide)) hM34 (fun M37 hM37 => (Fr.b (fun x2_50 => (hih16 _ _ _ hM37))))))))))
theorem bX7_layCosts_l16_n {ih6 : Int32 → Mem → Option (Mem × Unit)} (hih6 : ∀ (u0 : Int32) (u1 : Mem), KS SQr M0 u1 → Fr SQr M0 (ih6 u0 u1)) : ∀ (n : Nat) (v0 : Int32) (v1 : Int32) (v2 : Mem), KS SQr M0 v2 → Fr SQr M0 (mX7_layCosts_l16 135 ih6 n v0 v1 v2) := by
  intro n
  induction n with
  | zero => intro v0 v1 v2 h; exact Fr.n
  | succ n IH => intro v0 v1 v2 h; exact bX7_layCosts_b16  hih6 IH h
theorem bX7_layCosts_l16 {ih6 : Int32 → Mem → Option (Mem × Unit)} {v0 : Int32} {v1 : Int32} {v2 : Mem} (hih6 : ∀ (u0 : Int32) (u1 : Mem), KS SQr M0 u1 → Fr SQr M0 (ih6 u0 u1)) {n : Nat} (h : KS SQr M0 v2) : Fr SQr M0 (mX7_layCosts_l16 135 ih6 n v0 v1 v2) := bX7_layCosts_l16_n  hih6 n v0 v1 v2 h
theorem bX7_layCosts_b6 {ih6 : Int32 → Mem → Option (Mem × Unit)} {x1 : Int32} {M : Mem} (hih6 : ∀ (v0 : Int32) (v1 : Mem), KS SQr M0 v1 → Fr SQr M0 (ih6 v0 v1)) (hM : KS SQr M0 M) : Fr SQr M0 (mX7_layCosts_b6 135 ih6 x1 M) := by
  unfold mX7_layCosts_b6
  exact (Fr.c (fun r5 => (Fr.i (Fr.c (fun r9 => (bX7_layCosts_l67 hM))) (bX7_layCosts_l16 hih6 hM))))
theorem bX7_layCosts_l6_n  : ∀ (n : Nat) (v0 : Int32) (v1 : Mem), KS SQr M0 v1 → Fr SQr M0 (mX7_layCosts_l6 135 n v0 v1) := by
  intro n
  induction n with
  | zero => intro v0 v1 h; exact Fr.n
  | succ n IH => intro v0 v1 h; exact bX7_layCosts_b6  IH h
theorem bX7_layCosts_l6  {v0 : Int32} {v1 : Mem} {n : Nat} (h : KS SQr M0 v1) : Fr SQr M0 (mX7_layCosts_l6 135 n v0 v1) := bX7_layCosts_l6_n   n v0 v1 h
theorem bX7_layCosts {M : Mem} (hM : KS SQr M0 M) : Fr SQr M0 (mX7_layCosts 135 M) := by
  unfold mX7_layCosts
  exact (Fr.m (bX7_layOrders hM) (fun M3 _ hM3 => (bX7_layCosts_l6 hM3)))
theorem bX7_orders {M : Mem} (hM : KS SQr M0 M) : Fr SQr M0 (mX7_orders 135 M) := by
  unfold mX7_orders
  exact (Fr.bw (Or.inl ⟨rfl, by decide⟩) hM (fun M1 hM1 => (Fr.m (bX7_layOrders hM1) (fun M5 _ hM5 => (Fr.k (Fr.k (Fr.ok hM5)))))))
theorem bX7_leastNow {M : Mem} (hM : KS SQr M0 M) : Fr SQr M0 (mX7_leastNow 135 M) := by
  unfold mX7_leastNow
  exact (Fr.m (bX7_layCosts hM) (fun M3 _ hM3 => (Fr.c (fun r5 => (Fr.i (Fr.ok hM3) (Fr.k (Fr.c (fun r10 => (Fr.k (Fr.ok hM3))))))))))
theorem bX7_leastCost {M : Mem} (hM : KS SQr M0 M) : Fr SQr M0 (mX7_leastCost 135 M) := by
  unfold mX7_leastCost
  exact (Fr.bw (Or.inl ⟨rfl, by decide⟩) hM (fun M1 hM1 => (Fr.m (bX7_leastNow hM1) (fun M5 r4 hM5 => (Fr.ok hM5)))))
theorem bX7_plannedSteps {M : Mem} (hM : KS SQr M0 M) : Fr SQr M0 (mX7_plannedSteps 135 M) := by
  unfold mX7_plannedSteps
  exact (Fr.bw (Or.inl ⟨rfl, by decide⟩) hM (fun M1 hM1 => (Fr.m (bX7_layOrders hM1) (fun M5 _ hM5 => (Fr.c (fun r7 => (Fr.i (Fr.ok hM5) (Fr.c (fun r11 => (Fr.ok hM5))))))))))
theorem bX7_planned_b57 {ih57 : Int32 → Int32 → Int32 → Int32 → Mem → Option (Mem × Int32)} {x1 : Int32} {x2 : Int32} {x3 : Int32} {x4 : Int32} {M : Mem} (hih57 : ∀ (v0 : Int32) (v1 : Int32) (v2 : Int32) (v3 : Int32) (v4 : Mem), KS SQr M0 v4 → Fr SQr M0 (ih57 v0 v1 v2 v3 v4)) (hM : KS SQr M0 M) : Fr SQr M0 (mX7_planned_b57 135 ih57 x1 x2 x3 x4 M) := by
  unfold mX7_planned_b57
  exact (Fr.i (Fr.ok hM) (Fr.c (fun r19 => (Fr.b (fun x2_77 => (Fr.b (fun x4_78 => (hih57 _ _ _ _ _ hM))))))))
theorem bX7_planned_l57_n  : ∀ (n : Nat) (v0 : Int32) (v1 : Int32) (v2 : Int32) (v3 : Int32) (v4 : Mem), KS SQr M0 v4 → Fr SQr M0 (mX7_planned_l57 135 n v0 v1 v2 v3 v4) := by
  intro n
  induction n with
  | zero => intro v0 v1 v2 v3 v4 h; exact Fr.n
  | succ n IH => intro v0 v1 v2 v3 v4 h; exact bX7_planned_b57  IH h
theorem bX7_planned_l57  {v0 : Int32} {v1 : Int32} {v2 : Int32} {v3 : Int32} {v4 : Mem} {n : Nat} (h : KS SQr M0 v4) : Fr SQr M0 (mX7_planned_l57 135 n v0 v1 v2 v3 v4) := bX7_planned_l57_n   n v0 v1 v2 v3 v4 h
theorem bX7_planned_b33 {x1 : Int32} {y1 : Int32} {M : Mem} (hM : KS SQr M0 M) : Fr SQr M0 (mX7_planned_b33 135 x1 y1 M) := by
  unfold mX7_planned_b33
  exact (Fr.m (bX7_good hM) (fun M10 r9 hM10 => (Fr.i (Fr.ok hM10) (Fr.k (Fr.b (fun x2_48 => (Fr.c (fun r15 => (bX7_planned_l57 hM10)))))))))
theorem bX7_planned_b32 {x1 : Int32} {M : Mem} (hM : KS SQr M0 M) : Fr SQr M0 (mX7_planned_b32 135 x1 M) := by
  unfold mX7_planned_b32
  exact (bX7_planned_b33 hM)
theorem bX7_planned {x1 : Int32} {M : Mem} (hM : KS SQr M0 M) : Fr SQr M0 (mX7_planned 135 x1 M) := by
  unfold mX7_planned
  exact (Fr.m (bX7_layCosts hM) (fun M3 _ hM3 => (Fr.c (fun r5 => (Fr.i (bX7_planned_b32 hM3) (Fr.c (fun r24 => (Fr.c (fun r27 => (Fr.i (bX7_planned_b32 hM3) (bX7_planned_b33 hM3)))))))))))
theorem bX7_greatestCost {M : Mem} (hM : KS SQr M0 M) : Fr SQr M0 (mX7_greatestCost 135 M) := by
  unfold mX7_greatestCost
  exact (Fr.bw (Or.inl ⟨rfl, by decide⟩) hM (fun M1 hM1 => (Fr.m (bX7_layCosts hM1) (fun M5 _ hM5 => (Fr.c (fun r7 => (Fr.i (Fr.ok hM5) (Fr.k (Fr.c (fun r12 => (Fr.k (Fr.ok hM5))))))))))))
theorem bX7_ordersWith {x1 : Int32} {x2 : Int32} {M : Mem} (hM : KS SQr M0 M) : Fr SQr M0 (mX7_ordersWith 135 x1 x2 M) := by
  unfold mX7_ordersWith
  exact (Fr.c (fun r2 => (Fr.c (fun r5 => (Fr.m (bX7_good_ hM) (fun M9 r8 hM9 => (Fr.i (Fr.ok hM9) (Fr.m (bX7_layOrders hM9) (fun M13 _ hM13 => (Fr.k (Fr.k (Fr.i (Fr.ok hM13) (Fr.k (Fr.k (Fr.ok hM13)))))))))))))))
theorem bX7_layReached_b107 {ih44 : Int32 → Mem → Option (Mem × Unit)} {x1 : Int32} {M : Mem} (hih44 : ∀ (v0 : Int32) (v1 : Mem), KS SQr M0 v1 → Fr SQr M0 (ih44 v0 v1)) (hM : KS SQr M0 M) : Fr SQr M0 (mX7_layReached_b107 135 ih44 x1 M) := by
  unfold mX7_layReached_b107
  exact (Fr.b (fun x1_107 => (hih44 _ _ hM)))
theorem bX7_layReached_b54 {ih44 : Int32 → Mem → Option (Mem × Unit)} {ih54 : Int32 → Int32 → Mem → Option (Mem × Unit)} {x1 : Int32} {x2 : Int32} {M : Mem} (hih44 : ∀ (v0 : Int32) (v1 : Mem), KS SQr M0 v1 → Fr SQr M0 (ih44 v0 v1)) (hih54 : ∀ (v0 : Int32) (v1 : Int32) (v2 : Mem), KS SQr M0 v2 → Fr SQr M0 (ih54 v0 v1 v2)) (hM : KS SQr M0 M) : Fr SQr M0 (mX7_layReached_b54 135 ih44 ih54 x1 x2 M) := by
  unfold mX7_layReached_b54
  exact (Fr.k (Fr.i (bX7_layReached_b107 hih44 hM) (Fr.k (Fr.i (bX7_layReached_b107 hih44 hM) (Fr.k (Fr.k (Fr.k (Fr.bw (Or.inr (by decide)) hM (fun M21 hM21 => (Fr.b (fun x2_101 => (hih54 _ _ _ hM21))))))))))))
theorem bX7_layReached_l54_n {ih44 : Int32 → Mem → Option (Mem × Unit)} (hih44 : ∀ (u0 : Int32) (u1 : Mem), KS SQr M0 u1 → Fr SQr M0 (ih44 u0 u1)) : ∀ (n : Nat) (v0 : Int32) (v1 : Int32) (v2 : Mem), KS SQr M0 v2 → Fr SQr M0 (mX7_layReached_l54 135 ih44 n v0 v1 v2) := by
  intro n
  induction n with
  | zero => intro v0 v1 v2 h; exact Fr.n
  | succ n IH => intro v0 v1 v2 h; exact bX7_layReached_b54  hih44 IH h
theorem bX7_layReached_l54 {ih44 : Int32 → Mem → Option (Mem × Unit)} {v0 : Int32} {v1 : Int32} {v2 : Mem} (hih44 : ∀ (u0 : Int32) (u1 : Mem), KS SQr M0 u1 → Fr SQr M0 (ih44 u0 u1)) {n : Nat} (h : KS SQr M0 v2) : Fr SQr M0 (mX7_layReached_l54 135 ih44 n v0 v1 v2) := bX7_layReached_l54_n  hih44 n v0 v1 v2 h
theorem bX7_layReached_b44 {ih44 : Int32 → Mem → Option (Mem × Unit)} {x1 : Int32} {M : Mem} (hih44 : ∀ (v0 : Int32) (v1 : Mem), KS SQr M0 v1 → Fr SQr M0 (ih44 v0 v1)) (hM : KS SQr M0 M) : Fr SQr M0 (mX7_layReached_b44 135 ih44 x1 M) := by
  unfold mX7_layReached_b44
  exact (Fr.c (fun r9 => (Fr.i (Fr.ok hM) (bX7_layReached_l54 hih44 hM))))
theorem bX7_layReached_l44_n  : ∀ (n : Nat) (v0 : Int32) (v1 : Mem), KS SQr M0 v1 → Fr SQr M0 (mX7_layReached_l44 135 n v0 v1) := by
  intro n
  induction n with
  | zero => intro v0 v1 h; exact Fr.n
  | succ n IH => intro v0 v1 h; exact bX7_layReached_b44  IH h
theorem bX7_layReached_l44  {v0 : Int32} {v1 : Mem} {n : Nat} (h : KS SQr M0 v1) : Fr SQr M0 (mX7_layReached_l44 135 n v0 v1) := bX7_layReached_l44_n   n v0 v1 h
theorem bX7_layReached_b35 {ih6 : Int32 → Mem → Option (Mem × Unit)} {x1 : Int32} {y1 : Int32} {y2 : Int32} {M : Mem} (hih6 : ∀ (v0 : Int32) (v1 : Mem), KS SQr M0 v1 → Fr SQr M0 (ih6 v0 v1)) (hM : KS SQr M0 M) : Fr SQr M0 (mX7_layReached_b35 135 ih6 x1 y1 y2 M) := by
  unfold mX7_layReached_b35
  exact (Fr.k (Fr.bw (Or.inr (by decide)) hM (fun M27 hM27 => (Fr.b (fun x1_36 => (hih6 _ _ hM27))))))
theorem bX7_layReached_b6 {ih6 : Int32 → Mem → Option (Mem × Unit)} {x1 : Int32} {M : Mem} (hih6 : ∀ (v0 : Int32) (v1 : Mem), KS SQr M0 v1 → Fr SQr M0 (ih6 v0 v1)) (hM : KS SQr M0 M) : Fr SQr M0 (mX7_layReached_b6 135 ih6 x1 M) := by
  unfold mX7_layReached_b6
  exact (Fr.c (fun r5 => (Fr.i (bX7_layReached_l44 hM) (Fr.k (Fr.i (bX7_layReached_b35 hih6 hM) (bX7_layReached_b35 hih6 hM))))))
theorem bX7_layReached_l6_n  : ∀ (n : Nat) (v0 : Int32) (v1 : Mem), KS SQr M0 v1 → Fr SQr M0 (mX7_layReached_l6 135 n v0 v1) := by
  intro n
  induction n with
  | zero => intro v0 v1 h; exact Fr.n
  | succ n IH => intro v0 v1 h; exact bX7_layReached_b6  IH h
theorem bX7_layReached_l6  {v0 : Int32} {v1 : Mem} {n : Nat} (h : KS SQr M0 v1) : Fr SQr M0 (mX7_layReached_l6 135 n v0 v1) := bX7_layReached_l6_n   n v0 v1 h
theorem bX7_layReached {M : Mem} (hM : KS SQr M0 M) : Fr SQr M0 (mX7_layReached 135 M) := by
  unfold mX7_layReached
  exact (Fr.m (bX7_layOrders hM) (fun M3 _ hM3 => (bX7_layReached_l6 hM3)))
theorem bX7_lastSteps_b69 {ih13 : Int32 → Int32 → Mem → Option (Mem × Int32)} {x2 : Int32} {y0 : Int32} {y1 : Int32} {M : Mem} (hih13 : ∀ (v0 : Int32) (v1 : Int32) (v2 : Mem), KS SQr M0 v2 → Fr SQr M0 (ih13 v0 v1 v2)) (hM : KS SQr M0 M) : Fr SQr M0 (mX7_lastSteps_b69 135 ih13 x2 y0 y1 M) := by
  unfold mX7_lastSteps_b69
  exact (Fr.b (fun x1_70 => (Fr.b (fun x2_71 => (hih13 _ _ _ hM)))))
theorem bX7_lastSteps_b68 {ih13 : Int32 → Int32 → Mem → Option (Mem × Int32)} {x2 : Int32} {y0 : Int32} {M : Mem} (hih13 : ∀ (v0 : Int32) (v1 : Int32) (v2 : Mem), KS SQr M0 v2 → Fr SQr M0 (ih13 v0 v1 v2)) (hM : KS SQr M0 M) : Fr SQr M0 (mX7_lastSteps_b68 135 ih13 x2 y0 M) := by
  unfold mX7_lastSteps_b68
  exact (bX7_lastSteps_b69 hih13 hM)
theorem bX7_lastSteps_b13 {ih13 : Int32 → Int32 → Mem → Option (Mem × Int32)} {x1 : Int32} {x2 : Int32} {M : Mem} (hih13 : ∀ (v0 : Int32) (v1 : Int32) (v2 : Mem), KS SQr M0 v2 → Fr SQr M0 (ih13 v0 v1 v2)) (hM : KS SQr M0 M) : Fr SQr M0 (mX7_lastSteps_b13 135 ih13 x1 x2 M) := by
  unfold mX7_lastSteps_b13
  exact (Fr.k (Fr.i (Fr.ok hM) (Fr.c (fun r9 => (Fr.b (fun x3_37 => (Fr.k (Fr.i (bX7_lastSteps_b68 hih13 hM) (Fr.k (Fr.i (bX7_lastSteps_b68 hih13 hM) (bX7_lastSteps_b69 hih13 hM)))))))))))
theorem bX7_lastSteps_l13_n  : ∀ (n : Nat) (v0 : Int32) (v1 : Int32) (v2 : Mem), KS SQr M0 v2 → Fr SQr M0 (mX7_lastSteps_l13 135 n v0 v1 v2) := by
  intro n
  induction n with
  | zero => intro v0 v1 v2 h; exact Fr.n
  | succ n IH => intro v0 v1 v2 h; exact bX7_lastSteps_b13  IH h
theorem bX7_lastSteps_l13  {v0 : Int32} {v1 : Int32} {v2 : Mem} {n : Nat} (h : KS SQr M0 v2) : Fr SQr M0 (mX7_lastSteps_l13 135 n v0 v1 v2) := bX7_lastSteps_l13_n   n v0 v1 v2 h
theorem bX7_lastSteps {M : Mem} (hM : KS SQr M0 M) : Fr SQr M0 (mX7_lastSteps 135 M) := by
  unfold mX7_lastSteps
  exact (Fr.bw (Or.inl ⟨rfl, by decide⟩) hM (fun M1 hM1 => (Fr.m (bX7_layReached hM1) (fun M5 _ hM5 => (bX7_lastSteps_l13 hM5)))))
theorem bX7_mostBends_b93 {ih13 : Int32 → Int32 → Mem → Option (Mem × Int32)} {x2 : Int32} {y0 : Int32} {M : Mem} (hih13 : ∀ (v0 : Int32) (v1 : Int32) (v2 : Mem), KS SQr M0 v2 → Fr SQr M0 (ih13 v0 v1 v2)) (hM : KS SQr M0 M) : Fr SQr M0 (mX7_mostBends_b93 135 ih13 x2 y0 M) := by
  unfold mX7_mostBends_b93
  exact (Fr.b (fun x2_94 => (hih13 _ _ _ hM)))
theorem bX7_mostBends_b67 {ih13 : Int32 → Int32 → Mem → Option (Mem × Int32)} {ih26 : Int32 → Int32 → Int32 → Int32 → Mem → Option (Mem × Int32)} {x1 : Int32} {x2 : Int32} {x4 : Int32} {y0 : Int32} {y1 : Int32} {M : Mem} (hih13 : ∀ (v0 : Int32) (v1 : Int32) (v2 : Mem), KS SQr M0 v2 → Fr SQr M0 (ih13 v0 v1 v2)) (hih26 : ∀ (v0 : Int32) (v1 : Int32) (v2 : Int32) (v3 : Int32) (v4 : Mem), KS SQr M0 v4 → Fr SQr M0 (ih26 v0 v1 v2 v3 v4)) (hM : KS SQr M0 M) : Fr SQr M0 (mX7_mostBends_b67 135 ih13 ih26 x1 x2 x4 y0 y1 M) := by
  unfold mX7_mostBends_b67
  exact (Fr.b (fun x3_68 => (Fr.b (fun x4_69 => (hih26 _ _ _ _ _ hM)))))
theorem bX7_mostBends_b66 {ih13 : Int32 → Int32 → Mem → Option (Mem × Int32)} {ih26 : Int32 → Int32 → Int32 → Int32 → Mem → Option (Mem × Int32)} {x1 : Int32} {x2 : Int32} {x4 : Int32} {y0 : Int32} {M : Mem} (hih13 : ∀ (v0 : Int32) (v1 : Int32) (v2 : Mem), KS SQr M0 v2 → Fr SQr M0 (ih13 v0 v1 v2)) (hih26 : ∀ (v0 : Int32) (v1 : Int32) (v2 : Int32) (v3 : Int32) (v4 : Mem), KS SQr M0 v4 → Fr SQr M0 (ih26 v0 v1 v2 v3 v4)) (hM : KS SQr M0 M) : Fr SQr M0 (mX7_mostBends_b66 135 ih13 ih26 x1 x2 x4 y0 M) := by
  unfold mX7_mostBends_b66
  exact (bX7_mostBends_b67 hih13 hih26 hM)
theorem bX7_mostBends_b26 {ih13 : Int32 → Int32 → Mem → Option (Mem × Int32)} {ih26 : Int32 → Int32 → Int32 → Int32 → Mem → Option (Mem × Int32)} {x1 : Int32} {x2 : Int32} {x3 : Int32} {x4 : Int32} {M : Mem} (hih13 : ∀ (v0 : Int32) (v1 : Int32) (v2 : Mem), KS SQr M0 v2 → Fr SQr M0 (ih13 v0 v1 v2)) (hih26 : ∀ (v0 : Int32) (v1 : Int32) (v2 : Int32) (v3 : Int32) (v4 : Mem), KS SQr M0 v4 → Fr SQr M0 (ih26 v0 v1 v2 v3 v4)) (hM : KS SQr M0 M) : Fr SQr M0 (mX7_mostBends_b26 135 ih13 ih26 x1 x2 x3 x4 M) := by
  unfold mX7_mostBends_b26
  exact (Fr.k (Fr.i (Fr.k (Fr.i (bX7_mostBends_b93 hih13 hM) (bX7_mostBends_b93 hih13 hM))) (Fr.c (fun r16 => (Fr.i (bX7_mostBends_b66 hih13 hih26 hM) (Fr.k (Fr.c (fun r23 => (Fr.i (bX7_mostBends_b67 hih13 hih26 hM) (bX7_mostBends_b66 hih13 hih26 hM))))))))))
theorem bX7_mostBends_l26_n {ih13 : Int32 → Int32 → Mem → Option (Mem × Int32)} (hih13 : ∀ (u0 : Int32) (u1 : Int32) (u2 : Mem), KS SQr M0 u2 → Fr SQr M0 (ih13 u0 u1 u2)) : ∀ (n : Nat) (v0 : Int32) (v1 : Int32) (v2 : Int32) (v3 : Int32) (v4 : Mem), KS SQr M0 v4 → Fr SQr M0 (mX7_mostBends_l26 135 ih13 n v0 v1 v2 v3 v4) := by
  intro n
  induction n with
  | zero => intro v0 v1 v2 v3 v4 h; exact Fr.n
  | succ n IH => intro v0 v1 v2 v3 v4 h; exact bX7_mostBends_b26  hih13 IH h
theorem bX7_mostBends_l26 {ih13 : Int32 → Int32 → Mem → Option (Mem × Int32)} {v0 : Int32} {v1 : Int32} {v2 : Int32} {v3 : Int32} {v4 : Mem} (hih13 : ∀ (u0 : Int32) (u1 : Int32) (u2 : Mem), KS SQr M0 u2 → Fr SQr M0 (ih13 u0 u1 u2)) {n : Nat} (h : KS SQr M0 v4) : Fr SQr M0 (mX7_mostBends_l26 135 ih13 n v0 v1 v2 v3 v4) := bX7_mostBends_l26_n  hih13 n v0 v1 v2 v3 v4 h
theorem bX7_mostBends_b13 {ih13 : Int32 → Int32 → Mem → Option (Mem × Int32)} {x1 : Int32} {x2 : Int32} {M : Mem} (hih13 : ∀ (v0 : Int32) (v1 : Int32) (v2 : Mem), KS SQr M0 v2 → Fr SQr M0 (ih13 v0 v1 v2)) (hM : KS SQr M0 M) : Fr SQr M0 (mX7_mostBends_b13 135 ih13 x1 x2 M) := by
  unfold mX7_mostBends_b13
  exact (Fr.c (fun r7 => (Fr.i (Fr.ok hM) (bX7_mostBends_l26 hih13 hM))))
theorem bX7_mostBends_l13_n  : ∀ (n : Nat) (v0 : Int32) (v1 : Int32) (v2 : Mem), KS SQr M0 v2 → Fr SQr M0 (mX7_mostBends_l13 135 n v0 v1 v2) := by
  intro n
  induction n with
  | zero => intro v0 v1 v2 h; exact Fr.n
  | succ n IH => intro v0 v1 v2 h; exact bX7_mostBends_b13  IH h
theorem bX7_mostBends_l13  {v0 : Int32} {v1 : Int32} {v2 : Mem} {n : Nat} (h : KS SQr M0 v2) : Fr SQr M0 (mX7_mostBends_l13 135 n v0 v1 v2) := bX7_mostBends_l13_n   n v0 v1 v2 h
theorem bX7_mostBends {M : Mem} (hM : KS SQr M0 M) : Fr SQr M0 (mX7_mostBends 135 M) := by
  unfold mX7_mostBends
  exact (Fr.bw (Or.inl ⟨rfl, by decide⟩) hM (fun M1 hM1 => (Fr.m (bX7_layReached hM1) (fun M5 _ hM5 => (bX7_mostBends_l13 hM5)))))
theorem bX7_put {x1 : Int32} {M : Mem} (hM : KS SQr M0 M) : Fr SQr M0 (mX7_put 135 x1 M) := by
  unfold mX7_put
  exact (Fr.k (Fr.bw (Or.inr (by decide)) hM (fun M3 hM3 => (Fr.bw (Or.inl ⟨rfl, by decide⟩) hM3 (fun M4 hM4 => (Fr.ok hM4))))))
theorem bX7_putNumber_b18 {ih18 : Int32 → Int32 → Mem → Option (Mem × Unit)} {x1 : Int32} {x2 : Int32} {M : Mem} (hih18 : ∀ (v0 : Int32) (v1 : Int32) (v2 : Mem), KS SQr M0 v2 → Fr SQr M0 (ih18 v0 v1 v2)) (hM : KS SQr M0 M) : Fr SQr M0 (mX7_putNumber_b18 135 ih18 x1 x2 M) := by
  unfold mX7_putNumber_b18
  exact (Fr.i (Fr.ok hM) (Fr.k (Fr.m (bX7_put hM) (fun M7 _ hM7 => (Fr.b (fun x2_39 => (hih18 _ _ _ hM7)))))))
theorem bX7_putNumber_l18_n  : ∀ (n : Nat) (v0 : Int32) (v1 : Int32) (v2 : Mem), KS SQr M0 v2 → Fr SQr M0 (mX7_putNumber_l18 135 n v0 v1 v2) := by
  intro n
  induction n with
  | zero => intro v0 v1 v2 h; exact Fr.n
  | succ n IH => intro v0 v1 v2 h; exact bX7_putNumber_b18  IH h
theorem bX7_putNumber_l18  {v0 : Int32} {v1 : Int32} {v2 : Mem} {n : Nat} (h : KS SQr M0 v2) : Fr SQr M0 (mX7_putNumber_l18 135 n v0 v1 v2) := bX7_putNumber_l18_n   n v0 v1 v2 h
theorem bX7_putNumber_b2 {ih2 : Int32 → Int32 → Mem → Option (Mem × Unit)} {x1 : Int32} {x2 : Int32} {M : Mem} (hih2 : ∀ (v0 : Int32) (v1 : Int32) (v2 : Mem), KS SQr M0 v2 → Fr SQr M0 (ih2 v0 v1 v2)) (hM : KS SQr M0 M) : Fr SQr M0 (mX7_putNumber_b2 135 ih2 x1 x2 M) := by
  unfold mX7_putNumber_b2
  exact (Fr.k (Fr.i (bX7_putNumber_l18 hM) (Fr.b (fun x2_14 => (hih2 _ _ _ hM)))))
theorem bX7_putNumber_l2_n  : ∀ (n : Nat) (v0 : Int32) (v1 : Int32) (v2 : Mem), KS SQr M0 v2 → Fr SQr M0 (mX7_putNumber_l2 135 n v0 v1 v2) := by
  intro n
  induction n with
  | zero => intro v0 v1 v2 h; exact Fr.n
  | succ n IH => intro v0 v1 v2 h; exact bX7_putNumber_b2  IH h
theorem bX7_putNumber_l2  {v0 : Int32} {v1 : Int32} {v2 : Mem} {n : Nat} (h : KS SQr M0 v2) : Fr SQr M0 (mX7_putNumber_l2 135 n v0 v1 v2) := bX7_putNumber_l2_n   n v0 v1 v2 h
theorem bX7_putNumber {x1 : Int32} {M : Mem} (hM : KS SQr M0 M) : Fr SQr M0 (mX7_putNumber 135 x1 M) := by
  unfold mX7_putNumber
  exact (bX7_putNumber_l2 hM)
theorem bX7_putBend_b21 {x1 : Int32} {y1 : Int32} {M : Mem} (hM : KS SQr M0 M) : Fr SQr M0 (mX7_putBend_b21 135 x1 y1 M) := by
  unfold mX7_putBend_b21
  exact (Fr.m (bX7_put hM) (fun M5 _ hM5 => (Fr.k (Fr.c (fun r8 => (Fr.i (Fr.ok hM5) (Fr.m (bX7_put hM5) (fun M13 _ hM13 => (Fr.ok hM13)))))))))
theorem bX7_putBend {x1 : Int32} {M : Mem} (hM : KS SQr M0 M) : Fr SQr M0 (mX7_putBend 135 x1 M) := by
  unfold mX7_putBend
  exact (Fr.k (Fr.i (bX7_putBend_b21 hM) (bX7_putBend_b21 hM)))
theorem bX7_putCost_b6 {ih6 : Int32 → Mem → Option (Mem × Unit)} {x2 : Int32} {M : Mem} (hih6 : ∀ (v0 : Int32) (v1 : Mem), KS SQr M0 v1 → Fr SQr M0 (ih6 v0 v1)) (hM : KS SQr M0 M) : Fr SQr M0 (mX7_putCost_b6 135 ih6 x2 M) := by
  unfold mX7_putCost_b6
  exact (Fr.c (fun r2 => (Fr.i (Fr.c (fun r6 => (Fr.m (bX7_putNumber hM) (fun M10 _ hM10 => (Fr.ok hM10))))) (Fr.c (fun r12 => (Fr.m (bX7_put hM) (fun M16 _ hM16 => (Fr.b (fun x2_23 => (hih6 _ _ hM16))))))))))
theorem bX7_putCost_l6_n  : ∀ (n : Nat) (v0 : Int32) (v1 : Mem), KS SQr M0 v1 → Fr SQr M0 (mX7_putCost_l6 135 n v0 v1) := by
  intro n
  induction n with
  | zero => intro v0 v1 h; exact Fr.n
  | succ n IH => intro v0 v1 h; exact bX7_putCost_b6  IH h
theorem bX7_putCost_l6  {v0 : Int32} {v1 : Mem} {n : Nat} (h : KS SQr M0 v1) : Fr SQr M0 (mX7_putCost_l6 135 n v0 v1) := bX7_putCost_l6_n   n v0 v1 h
theorem bX7_putCost {M : Mem} (hM : KS SQr M0 M) : Fr SQr M0 (mX7_putCost 135 M) := by
  unfold mX7_putCost
  exact (bX7_putCost_l6 hM)
theorem bX7_write_b49 {ih12 : Int32 → Mem → Option (Mem × Int32)} {x1 : Int32} {M : Mem} (hih12 : ∀ (v0 : Int32) (v1 : Mem), KS SQr M0 v1 → Fr SQr M0 (ih12 v0 v1)) (hM : KS SQr M0 M) : Fr SQr M0 (mX7_write_b49 135 ih12 x1 M) := by
  unfold mX7_write_b49
  exact (Fr.b (fun x1_49 => (hih12 _ _ hM)))
theorem bX7_write_b12 {ih12 : Int32 → Mem → Option (Mem × Int32)} {x1 : Int32} {M : Mem} (hih12 : ∀ (v0 : Int32) (v1 : Mem), KS SQr M0 v1 → Fr SQr M0 (ih12 v0 v1)) (hM : KS SQr M0 M) : Fr SQr M0 (mX7_write_b12 135 ih12 x1 M) := by
  unfold mX7_write_b12
  exact (Fr.k (Fr.i (Fr.k (Fr.i (Fr.ok hM) (Fr.m (bX7_putCost hM) (fun M11 _ hM11 => (Fr.ok hM11))))) (Fr.k (Fr.m (bX7_putNumber hM) (fun M15 _ hM15 => (Fr.k (Fr.i (bX7_write_b49 hih12 hM15) (Fr.m (bX7_putBend hM15) (fun M21 _ hM21 => (bX7_write_b49 hih12 hM21))))))))))
theorem bX7_write_l12_n  : ∀ (n : Nat) (v0 : Int32) (v1 : Mem), KS SQr M0 v1 → Fr SQr M0 (mX7_write_l12 135 n v0 v1) := by
  intro n
  induction n with
  | zero => intro v0 v1 h; exact Fr.n
  | succ n IH => intro v0 v1 h; exact bX7_write_b12  IH h
theorem bX7_write_l12  {v0 : Int32} {v1 : Mem} {n : Nat} (h : KS SQr M0 v1) : Fr SQr M0 (mX7_write_l12 135 n v0 v1) := bX7_write_l12_n   n v0 v1 h
theorem bX7_write {M : Mem} (hM : KS SQr M0 M) : Fr SQr M0 (mX7_write 135 M) := by
  unfold mX7_write
  exact (Fr.bw (Or.inl ⟨rfl, by decide⟩) hM (fun M1 hM1 => (Fr.bw (Or.inl ⟨rfl, by decide⟩) hM1 (fun M3 hM3 => (bX7_write_l12 hM3)))))
theorem bX7_written {x1 : Int32} {M : Mem} (hM : KS SQr M0 M) : Fr SQr M0 (mX7_written 135 x1 M) := by
  unfold mX7_written
  exact (Fr.c (fun r2 => (Fr.m (bX7_good hM) (fun M6 r5 hM6 => (Fr.i (Fr.ok hM6) (Fr.k (Fr.k (Fr.ok hM6))))))))
end FFqry
def SPf (k _ : Nat) : Prop := 103 ≤ k ∧ k ≤ 109
section FFpfc
variable {M0 : Mem}
theorem bX2_walk_b272 {k0 : Nat} {k1 : Nat} {ih13 : Int32 → Int32 → Int32 → Int32 → Int32 → Int32 → Int32 → Int32 → Mem → Option (Mem × Unit)} {x3 : Int32} {x5 : Int32} {x6 : Int32} {x7 : Int32} {x8 : Int32} {x9 : Int32} {x10 : Int32} {x11 : Int32} {M : Mem} (hih13 : ∀ (v0 : Int32) (v1 : Int32) (v2 : Int32) (v3 : Int32) (v4 : Int32) (v5 : Int32) (v6 : Int32) (v7 : Int32) (v8 : Mem), KS SPf M0 v8 → Fr SPf M0 (ih13 v0 v1 v2 v3 v4 v5 v6 v7 v8)) (hM : KS SPf M0 M) : Fr SPf M0 (mX2_walk_b272 k0 k1 ih13 x3 x5 x6 x7 x8 x9 x10 x11 M) := by
  unfold mX2_walk_b272
  exact (Fr.b (fun x11_276 => (hih13 _ _ _ _ _ _ _ _ _ hM)))
theorem bX2_walk_b267 {k0 : Nat} {k1 : Nat} {ih13 : Int32 → Int32 → Int32 → Int32 → Int32 → Int32 → Int32 → Int32 → Mem → Option (Mem × Unit)} {x3 : Int32} {x5 : Int32} {x6 : Int32} {x7 : Int32} {x8 : Int32} {x9 : Int32} {x11 : Int32} {y0 : Int32} {y1 : Int32} {M : Mem} (hih13 : ∀ (v0 : Int32) (v1 : Int32) (v2 : Int32) (v3 : Int32) (v4 : Int32) (v5 : Int32) (v6 : Int32) (v7 : Int32) (v8 : Mem), KS SPf M0 v8 → Fr SPf M0 (ih13 v0 v1 v2 v3 v4 v5 v6 v7 v8)) (hM : KS SPf M0 M) : Fr SPf M0 (mX2_walk_b267 k0 k1 ih13 x3 x5 x6 x7 x8 x9 x11 y0 y1 M) := by
  unfold mX2_walk_b267
  exact (Fr.b (fun x10_270 => (bX2_walk_b272 hih13 hM)))
theorem bX2_walk_b249 {k0 : Nat} {k1 : Nat} {ih13 : Int32 → Int32 → Int32 → Int32 → Int32 → Int32 → Int32 → Int32 → Mem → Option (Mem × Unit)} {x3 : Int32} {x5 : Int32} {x6 : Int32} {x7 : Int32} {x8 : Int32} {x9 : Int32} {x10 : Int32} {x11 : Int32} {y0 : Int32} {M : Mem} (hih13 : ∀ (v0 : Int32) (v1 : Int32) (v2 : Int32) (v3 : Int32) (v4 : Int32) (v5 : Int32) (v6 : Int32) (v7 : Int32) (v8 : Mem), KS SPf M0 v8 → Fr SPf M0 (ih13 v0 v1 v2 v3 v4 v5 v6 v7 v8)) (hM : KS SPf M0 M) : Fr SPf M0 (mX2_walk_b249 k0 k1 ih13 x3 x5 x6 x7 x8 x9 x10 x11 y0 M) := by
  unfold mX2_walk_b249
  exact (Fr.i (bX2_walk_b267 hih13 hM) (bX2_walk_b267 hih13 hM))
theorem bX2_walk_b217 {k0 : Nat} {k1 : Nat} {ih13 : Int32 → Int32 → Int32 → Int32 → Int32 → Int32 → Int32 → Int32 → Mem → Option (Mem × Unit)} {x3 : Int32} {x5 : Int32} {x6 : Int32} {x7 : Int32} {x8 : Int32} {x9 : Int32} {x10 : Int32} {x11 : Int32} {y0 : Int32} {M : Mem} (hih13 : ∀ (v0 : Int32) (v1 : Int32) (v2 : Int32) (v3 : Int32) (v4 : Int32) (v5 : Int32) (v6 : Int32) (v7 : Int32) (v8 : Mem), KS SPf M0 v8 → Fr SPf M0 (ih13 v0 v1 v2 v3 v4 v5 v6 v7 v8)) (hM : KS SPf M0 M) : Fr SPf M0 (mX2_walk_b217 k0 k1 ih13 x3 x5 x6 x7 x8 x9 x10 x11 y0 M) := by
  unfold mX2_walk_b217
  exact (Fr.i (bX2_walk_b272 hih13 hM) (Fr.i (bX2_walk_b272 hih13 hM) (Fr.i (bX2_walk_b249 hih13 hM) (bX2_walk_b249 hih13 hM))))
theorem bX2_walk_b108 {k0 : Nat} {k1 : Nat} {ih13 : Int32 → Int32 → Int32 → Int32 → Int32 → Int32 → Int32 → Int32 → Mem → Option (Mem × Unit)} {x3 : Int32} {x5 : Int32} {x6 : Int32} {x7 : Int32} {x8 : Int32} {x9 : Int32} {x10 : Int32} {x11 : Int32} {y1 : Int32} {y2 : Int32} {y3 : Int32} {M : Mem} (wk0 : k0 = 103) (hih13 : ∀ (v0 : Int32) (v1 : Int32) (v2 : Int32) (v3 : Int32) (v4 : Int32) (v5 : Int32) (v6 : Int32) (v7 : Int32) (v8 : Mem), KS SPf M0 v8 → Fr SPf M0 (ih13 v0 v1 v2 v3 v4 v5 v6 v7 v8)) (hM : KS SPf M0 M) : Fr SPf M0 (mX2_walk_b108 k0 k1 ih13 x3 x5 x6 x7 x8 x9 x10 x11 y1 y2 y3 M) := by
  unfold mX2_walk_b108
  exact (Fr.k (Fr.bw (by unfold SPf; omega) hM (fun M15 hM15 => (Fr.k (Fr.k (Fr.bw (by unfold SPf; omega) hM15 (fun M19 hM19 => (Fr.k (Fr.k (Fr.bw (by unfold SPf; omega) hM19 (fun M23 hM23 => (Fr.k (Fr.k (Fr.bw (by unfold SPf; omega) hM23 (fun M27 hM27 => (Fr.k (Fr.k (Fr.bw (by unfold SPf; omega) hM27 (fun M31 hM31 => (Fr.k (Fr.b (fun x8_193 => (Fr.k (Fr.b (fun x9_202 => (Fr.i (bX2_walk_b217 hih13 hM31) (bX2_walk_b217 hih13 hM31)))))))))))))))))))))))))))
theorem bX2_walk_b75 {k0 : Nat} {k1 : Nat} {ih13 : Int32 → Int32 → Int32 → Int32 → Int32 → Int32 → Int32 → Int32 → Mem → Option (Mem × Unit)} {x3 : Int32} {x5 : Int32} {x6 : Int32} {x7 : Int32} {x8 : Int32} {x9 : Int32} {x10 : Int32} {x11 : Int32} {x12 : Int32} {y1 : Int32} {y2 : Int32} {y3 : Int32} {M : Mem} (wk0 : k0 = 103) (hih13 : ∀ (v0 : Int32) (v1 : Int32) (v2 : Int32) (v3 : Int32) (v4 : Int32) (v5 : Int32) (v6 : Int32) (v7 : Int32) (v8 : Mem), KS SPf M0 v8 → Fr SPf M0 (ih13 v0 v1 v2 v3 v4 v5 v6 v7 v8)) (hM : KS SPf M0 M) : Fr SPf M0 (mX2_walk_b75 k0 k1 ih13 x3 x5 x6 x7 x8 x9 x10 x11 x12 y1 y2 y3 M) := by
  unfold mX2_walk_b75
  exact (Fr.k (Fr.bw (by unfold SPf; omega) hM (fun M10 hM10 => (Fr.i (bX2_walk_b108 (by omega) hih13 hM10) (Fr.i (bX2_walk_b108 (by omega) hih13 hM10) (bX2_walk_b108 (by omega) hih13 hM10))))))
theorem bX2_walk_b13 {k0 : Nat} {k1 : Nat} {ih13 : Int32 → Int32 → Int32 → Int32 → Int32 → Int32 → Int32 → Int32 → Mem → Option (Mem × Unit)} {x3 : Int32} {x5 : Int32} {x6 : Int32} {x7 : Int32} {x8 : Int32} {x9 : Int32} {x10 : Int32} {x11 : Int32} {M : Mem} (wk0 : k0 = 103) (hih13 : ∀ (v0 : Int32) (v1 : Int32) (v2 : Int32) (v3 : Int32) (v4 : Int32) (v5 : Int32) (v6 : Int32) (v7 : Int32) (v8 : Mem), KS SPf M0 v8 → Fr SPf M0 (ih13 v0 v1 v2 v3 v4 v5 v6 v7 v8)) (hM : KS SPf M0 M) : Fr SPf M0 (mX2_walk_b13 k0 k1 ih13 x3 x5 x6 x7 x8 x9 x10 x11 M) := by
  unfold mX2_walk_b13
  exact (Fr.i (Fr.ok hM) (Fr.i (Fr.ok hM) (Fr.i (Fr.ok hM) (Fr.k (Fr.b (fun x12_41 => (Fr.i (bX2_walk_b75 (by omega) hih13 hM) (Fr.i (bX2_walk_b75 (by omega) hih13 hM) (bX2_walk_b75 (by omega) hih13 hM)))))))))
theorem bX2_walk_l13_n {k0 : Nat} {k1 : Nat} (wk0 : k0 = 103) : ∀ (n : Nat) (v0 : Int32) (v1 : Int32) (v2 : Int32) (v3 : Int32) (v4 : Int32) (v5 : Int32) (v6 : Int32) (v7 : Int32) (v8 : Mem), KS SPf M0 v8 → Fr SPf M0 (mX2_walk_l13 k0 k1 n v0 v1 v2 v3 v4 v5 v6 v7 v8) := by
  intro n
  induction n with
  | zero => intro v0 v1 v2 v3 v4 v5 v6 v7 v8 h; exact Fr.n
  | succ n IH => intro v0 v1 v2 v3 v4 v5 v6 v7 v8 h; exact bX2_walk_b13 (by omega) IH h
theorem bX2_walk_l13 {k0 : Nat} {k1 : Nat} {v0 : Int32} {v1 : Int32} {v2 : Int32} {v3 : Int32} {v4 : Int32} {v5 : Int32} {v6 : Int32} {v7 : Int32} {v8 : Mem} (wk0 : k0 = 103) {n : Nat} (h : KS SPf M0 v8) : Fr SPf M0 (mX2_walk_l13 k0 k1 n v0 v1 v2 v3 v4 v5 v6 v7 v8) := bX2_walk_l13_n wk0  n v0 v1 v2 v3 v4 v5 v6 v7 v8 h
theorem bX2_walk {k0 : Nat} {k1 : Nat} {x2 : Int32} {x3 : Int32} {x4 : Int32} {x5 : Int32} {x6 : Int32} {x7 : Int32} {M : Mem} (wk0 : k0 = 103) (hM : KS SPf M0 M) : Fr SPf M0 (mX2_walk k0 k1 x2 x3 x4 x5 x6 x7 M) := by
  unfold mX2_walk
  exact (bX2_walk_l13 (by omega) hM)
theorem bX2_layFinished {k0 : Nat} {k1 : Nat} {M : Mem} (wk0 : k0 = 103) (hM : KS SPf M0 M) : Fr SPf M0 (mX2_layFinished k0 k1 M) := by
  unfold mX2_layFinished
  exact (Fr.bw (by unfold SPf; omega) hM (fun M1 hM1 => (Fr.c (fun r4 => (Fr.m (bX2_walk (by omega) hM1) (fun M8 _ hM8 => (Fr.ok hM8)))))))
theorem bX2_layStep_b27 {k0 : Nat} {k1 : Nat} {x2 : Int32} {x3 : Int32} {x4 : Int32} {y0 : Int32} {M : Mem} (wk0 : k0 = 103) (hM : KS SPf M0 M) : Fr SPf M0 (mX2_layStep_b27 k0 k1 x2 x3 x4 y0 M) := by
  unfold mX2_layStep_b27
  exact (Fr.bw (by unfold SPf; omega) hM (fun M6 hM6 => (Fr.i (Fr.bw (by unfold SPf; omega) hM6 (fun M19 hM19 => (Fr.bw (by unfold SPf; omega) hM19 (fun M21 hM21 => (Fr.m (bX2_walk (by omega) hM21) (fun M25 _ hM25 => (Fr.m (bX2_walk (by omega) hM25) (fun M28 _ hM28 => (Fr.ok hM28))))))))) (Fr.bw (by unfold SPf; omega) hM6 (fun M9 hM9 => (Fr.bw (by unfold SPf; omega) hM9 (fun M11 hM11 => (Fr.m (bX2_walk (by omega) hM11) (fun M15 _ hM15 => (Fr.m (bX2_walk (by omega) hM15) (fun M18 _ hM18 => (Fr.ok hM18))))))))))))
theorem bX2_layStep {k0 : Nat} {k1 : Nat} {x2 : Int32} {x3 : Int32} {M : Mem} (wk0 : k0 = 103) (hM : KS SPf M0 M) : Fr SPf M0 (mX2_layStep k0 k1 x2 x3 M) := by
  unfold mX2_layStep
  exact (Fr.b (fun x4_3 => (Fr.c (fun r3 => (Fr.i (bX2_layStep_b27 (by omega) hM) (bX2_layStep_b27 (by omega) hM))))))
theorem bX2_reasonFor_b20 {k0 : Nat} {k1 : Nat} {x2 : Int32} {x3 : Int32} {x4 : Int32} {y0 : Int32} {M : Mem} (wk0 : k0 = 103) (hM : KS SPf M0 M) : Fr SPf M0 (mX2_reasonFor_b20 k0 k1 x2 x3 x4 y0 M) := by
  unfold mX2_reasonFor_b20
  exact (Fr.i (Fr.i (Fr.ok hM) (Fr.i (Fr.ok hM) (Fr.k (Fr.k (Fr.i (Fr.m (bX2_layStep (by omega) hM) (fun M11 _ hM11 => (Fr.c (fun r13 => (Fr.k (Fr.i (Fr.ok hM11) (Fr.k (Fr.i (Fr.c (fun r20 => (Fr.b (fun x8_123 => (Fr.i (Fr.i (Fr.c (fun r26 => (Fr.i (Fr.ok hM11) (Fr.ok hM11)))) (Fr.ok hM11)) (Fr.ok hM11)))))) (Fr.ok hM11))))))))) (Fr.ok hM)))))) (Fr.ok hM))
theorem bX2_reasonFor {k0 : Nat} {k1 : Nat} {x2 : Int32} {x3 : Int32} {M : Mem} (wk0 : k0 = 103) (hM : KS SPf M0 M) : Fr SPf M0 (mX2_reasonFor k0 k1 x2 x3 M) := by
  unfold mX2_reasonFor
  exact (Fr.b (fun x4_3 => (Fr.i (bX2_reasonFor_b20 (by omega) hM) (bX2_reasonFor_b20 (by omega) hM))))
theorem bX2_possibleSteps_b34 {k0 : Nat} {k1 : Nat} {ih5 : Int32 → Int32 → Int32 → Mem → Option (Mem × Int32)} {x2 : Int32} {x3 : Int32} {x4 : Int32} {M : Mem} (hih5 : ∀ (v0 : Int32) (v1 : Int32) (v2 : Int32) (v3 : Mem), KS SPf M0 v3 → Fr SPf M0 (ih5 v0 v1 v2 v3)) (hM : KS SPf M0 M) : Fr SPf M0 (mX2_possibleSteps_b34 k0 k1 ih5 x2 x3 x4 M) := by
  unfold mX2_possibleSteps_b34
  exact (Fr.b (fun x4_34 => (hih5 _ _ _ _ hM)))
theorem bX2_possibleSteps_b5 {k0 : Nat} {k1 : Nat} {ih5 : Int32 → Int32 → Int32 → Mem → Option (Mem × Int32)} {x2 : Int32} {x3 : Int32} {x4 : Int32} {M : Mem} (wk0 : k0 = 103) (hih5 : ∀ (v0 : Int32) (v1 : Int32) (v2 : Int32) (v3 : Mem), KS SPf M0 v3 → Fr SPf M0 (ih5 v0 v1 v2 v3)) (hM : KS SPf M0 M) : Fr SPf M0 (mX2_possibleSteps_b5 k0 k1 ih5 x2 x3 x4 M) := by
  unfold mX2_possibleSteps_b5
  exact (Fr.c (fun r2 => (Fr.i (Fr.ok hM) (Fr.m (bX2_reasonFor (by omega) hM) (fun M7 r6 hM7 => (Fr.i (Fr.b (fun x3_33 => (bX2_possibleSteps_b34 hih5 hM7))) (bX2_possibleSteps_b34 hih5 hM7)))))))
theorem bX2_possibleSteps_l5_n {k0 : Nat} {k1 : Nat} (wk0 : k0 = 103) : ∀ (n : Nat) (v0 : Int32) (v1 : Int32) (v2 : Int32) (v3 : Mem), KS SPf M0 v3 → Fr SPf M0 (mX2_possibleSteps_l5 k0 k1 n v0 v1 v2 v3) := by
  intro n
  induction n with
  | zero => intro v0 v1 v2 v3 h; exact Fr.n
  | succ n IH => intro v0 v1 v2 v3 h; exact bX2_possibleSteps_b5 (by omega) IH h
theorem bX2_possibleSteps_l5 {k0 : Nat} {k1 : Nat} {v0 : Int32} {v1 : Int32} {v2 : Int32} {v3 : Mem} (wk0 : k0 = 103) {n : Nat} (h : KS SPf M0 v3) : Fr SPf M0 (mX2_possibleSteps_l5 k0 k1 n v0 v1 v2 v3) := bX2_possibleSteps_l5_n wk0  n v0 v1 v2 v3 h
theorem bX2_possibleSteps {k0 : Nat} {k1 : Nat} {x2 : Int32} {M : Mem} (wk0 : k0 = 103) (hM : KS SPf M0 M) : Fr SPf M0 (mX2_possibleSteps k0 k1 x2 M) := by
  unfold mX2_possibleSteps
  exact (bX2_possibleSteps_l5 (by omega) hM)
theorem bX6_requireLeg_b21 {k0 : Nat} {M : Mem} (hM : KS SPf M0 M) : Fr SPf M0 (mX6_requireLeg_b21 k0 M) := by
  unfold mX6_requireLeg_b21
  exact (Fr.ok hM)
theorem bX6_requireLeg {k0 : Nat} {x1 : Int32} {M : Mem} (hM : KS SPf M0 M) : Fr SPf M0 (mX6_requireLeg k0 x1 M) := by
  unfold mX6_requireLeg
  exact (Fr.i (bX6_requireLeg_b21 hM) (Fr.i (bX6_requireLeg_b21 hM) (Fr.i (Fr.ok hM) (bX6_requireLeg_b21 hM))))
theorem bX6_leg {k0 : Nat} {x1 : Int32} {M : Mem} (hM : KS SPf M0 M) : Fr SPf M0 (mX6_leg k0 x1 M) := by
  unfold mX6_leg
  exact (Fr.x (bX6_requireLeg hM) (fun M3 _ hM3 => (Fr.k (Fr.ok hM3))))
theorem bX6_requireBend_b21 {k0 : Nat} {M : Mem} (hM : KS SPf M0 M) : Fr SPf M0 (mX6_requireBend_b21 k0 M) := by
  unfold mX6_requireBend_b21
  exact (Fr.ok hM)
theorem bX6_requireBend {k0 : Nat} {x1 : Int32} {M : Mem} (hM : KS SPf M0 M) : Fr SPf M0 (mX6_requireBend k0 x1 M) := by
  unfold mX6_requireBend
  exact (Fr.i (bX6_requireBend_b21 hM) (Fr.c (fun r3 => (Fr.i (bX6_requireBend_b21 hM) (Fr.i (Fr.ok hM) (bX6_requireBend_b21 hM))))))
theorem bX6_isUp {k0 : Nat} {x1 : Int32} {M : Mem} (hM : KS SPf M0 M) : Fr SPf M0 (mX6_isUp k0 x1 M) := by
  unfold mX6_isUp
  exact (Fr.x (bX6_requireBend hM) (fun M3 _ hM3 => (Fr.c (fun r6 => (Fr.k (Fr.ok hM3))))))
theorem bX6_linePlace {k0 : Nat} {x1 : Int32} {M : Mem} (hM : KS SPf M0 M) : Fr SPf M0 (mX6_linePlace k0 x1 M) := by
  unfold mX6_linePlace
  exact (Fr.x (bX6_requireBend hM) (fun M3 _ hM3 => (Fr.c (fun r6 => (Fr.k (Fr.c (fun r10 => (Fr.k (Fr.k (Fr.ok hM3))))))))))
theorem bX6_springBackFor_b19 {k0 : Nat} {x1 : UInt64} {y0 : Int32} {M : Mem} (hM : KS SPf M0 M) : Fr SPf M0 (mX6_springBackFor_b19 k0 x1 y0 M) := by
  unfold mX6_springBackFor_b19
  exact (Fr.i (Fr.ok hM) (Fr.c (fun r4 => (Fr.ok hM))))
theorem bX6_springBackFor_b18 {k0 : Nat} {x1 : UInt64} {M : Mem} (hM : KS SPf M0 M) : Fr SPf M0 (mX6_springBackFor_b18 k0 x1 M) := by
  unfold mX6_springBackFor_b18
  exact (bX6_springBackFor_b19 hM)
theorem bX6_springBackFor {k0 : Nat} {x1 : UInt64} {M : Mem} (hM : KS SPf M0 M) : Fr SPf M0 (mX6_springBackFor k0 x1 M) := by
  unfold mX6_springBackFor
  exact (Fr.i (bX6_springBackFor_b18 hM) (Fr.i (bX6_springBackFor_b18 hM) (bX6_springBackFor_b19 hM)))
theorem bX6_tool_b21 {k0 : Nat} {M : Mem} (hM : KS SPf M0 M) : Fr SPf M0 (mX6_tool_b21 k0 M) := by
  unfold mX6_tool_b21
  exact (Fr.ok hM)
theorem bX6_tool {k0 : Nat} {x1 : Int32} {x2 : Int32} {M : Mem} (hM : KS SPf M0 M) : Fr SPf M0 (mX6_tool k0 x1 x2 M) := by
  unfold mX6_tool
  exact (Fr.c (fun r2 => (Fr.o (bX6_tool_b21 hM) (fun w4 => (Fr.k (Fr.i (bX6_tool_b21 hM) (Fr.c (fun r8 => (Fr.i (Fr.k (Fr.ok hM)) (bX6_tool_b21 hM))))))))))
theorem bX6_finishedWidth {k0 : Nat} {M : Mem} (hM : KS SPf M0 M) : Fr SPf M0 (mX6_finishedWidth k0 M) := by
  unfold mX6_finishedWidth
  exact (Fr.m (bX2_layFinished (by omega) hM) (fun M3 _ hM3 => (Fr.c (fun r5 => (Fr.ok hM3)))))
theorem bX6_finishedHeight {k0 : Nat} {M : Mem} (hM : KS SPf M0 M) : Fr SPf M0 (mX6_finishedHeight k0 M) := by
  unfold mX6_finishedHeight
  exact (Fr.m (bX2_layFinished (by omega) hM) (fun M3 _ hM3 => (Fr.c (fun r5 => (Fr.ok hM3)))))
theorem bX6_isFinishedCrossed {k0 : Nat} {M : Mem} (hM : KS SPf M0 M) : Fr SPf M0 (mX6_isFinishedCrossed k0 M) := by
  unfold mX6_isFinishedCrossed
  exact (Fr.m (bX2_layFinished (by omega) hM) (fun M3 _ hM3 => (Fr.c (fun r5 => (Fr.k (Fr.ok hM3))))))
theorem bX6_requireChoice_b9 {M : Mem} (hM : KS SPf M0 M) : Fr SPf M0 (mX6_requireChoice_b9 M) := by
  unfold mX6_requireChoice_b9
  exact (Fr.ok hM)
theorem bX6_requireChoice {x0 : Int32} {x1 : Int32} {M : Mem} (hM : KS SPf M0 M) : Fr SPf M0 (mX6_requireChoice x0 x1 M) := by
  unfold mX6_requireChoice
  exact (Fr.i (bX6_requireChoice_b9 hM) (Fr.i (Fr.ok hM) (bX6_requireChoice_b9 hM)))
theorem bX6_finishedCorner {k0 : Nat} {x1 : Int32} {x2 : Int32} {M : Mem} (hM : KS SPf M0 M) : Fr SPf M0 (mX6_finishedCorner k0 x1 x2 M) := by
  unfold mX6_finishedCorner
  exact (Fr.x (bX6_requireLeg hM) (fun M3 _ hM3 => (Fr.x (bX6_requireChoice hM3) (fun M7 _ hM7 => (Fr.m (bX2_layFinished (by omega) hM7) (fun M11 _ hM11 => (Fr.i (Fr.k (Fr.ok hM11)) (Fr.k (Fr.ok hM11)))))))))
theorem bX6_step_b21 {k0 : Nat} {M : Mem} (hM : KS SPf M0 M) : Fr SPf M0 (mX6_step_b21 k0 M) := by
  unfold mX6_step_b21
  exact (Fr.ok hM)
theorem bX6_step {k0 : Nat} {x1 : Int32} {x2 : Int32} {M : Mem} (hM : KS SPf M0 M) : Fr SPf M0 (mX6_step k0 x1 x2 M) := by
  unfold mX6_step
  exact (Fr.i (bX6_step_b21 hM) (Fr.i (bX6_step_b21 hM) (Fr.i (Fr.x (bX6_requireChoice hM) (fun M6 _ hM6 => (Fr.i (Fr.k (Fr.ok hM6)) (Fr.i (Fr.k (Fr.ok hM6)) (Fr.i (Fr.k (Fr.ok hM6)) (Fr.k (Fr.ok hM6))))))) (bX6_step_b21 hM))))
theorem bX6_requireStep {k0 : Nat} {x1 : Int32} {x2 : Int32} {M : Mem} (hM : KS SPf M0 M) : Fr SPf M0 (mX6_requireStep k0 x1 x2 M) := by
  unfold mX6_requireStep
  exact (Fr.x (bX6_requireBend hM) (fun M3 _ hM3 => (Fr.x (bX6_requireChoice hM3) (fun M7 _ hM7 => (Fr.ok hM7)))))
theorem bX6_reasonNow {k0 : Nat} {x1 : Int32} {M : Mem} (hM : KS SPf M0 M) : Fr SPf M0 (mX6_reasonNow k0 x1 M) := by
  unfold mX6_reasonNow
  exact (Fr.m (bX2_reasonFor (by omega) hM) (fun M3 r2 hM3 => (Fr.ok hM3)))
theorem bX6_gaugeNow {k0 : Nat} {x1 : Int32} {M : Mem} (hM : KS SPf M0 M) : Fr SPf M0 (mX6_gaugeNow k0 x1 M) := by
  unfold mX6_gaugeNow
  exact (Fr.m (bX2_layStep (by omega) hM) (fun M3 _ hM3 => (Fr.c (fun r5 => (Fr.ok hM3)))))
theorem bX6_corner {k0 : Nat} {x1 : Int32} {x2 : Int32} {x3 : Int32} {x4 : Int32} {M : Mem} (hM : KS SPf M0 M) : Fr SPf M0 (mX6_corner k0 x1 x2 x3 x4 M) := by
  unfold mX6_corner
  exact (Fr.x (bX6_requireBend hM) (fun M3 _ hM3 => (Fr.x (bX6_requireLeg hM3) (fun M7 _ hM7 => (Fr.x (bX6_requireChoice hM7) (fun M11 _ hM11 => (Fr.x (bX6_requireChoice hM11) (fun M15 _ hM15 => (Fr.m (bX2_layStep (by omega) hM15) (fun M19 _ hM19 => (Fr.i (Fr.k (Fr.ok hM19)) (Fr.k (Fr.ok hM19)))))))))))))
theorem bX6_top {k0 : Nat} {x1 : Int32} {x2 : Int32} {M : Mem} (hM : KS SPf M0 M) : Fr SPf M0 (mX6_top k0 x1 x2 M) := by
  unfold mX6_top
  exact (Fr.x (bX6_requireStep hM) (fun M3 _ hM3 => (Fr.m (bX2_layStep (by omega) hM3) (fun M7 _ hM7 => (Fr.c (fun r9 => (Fr.ok hM7)))))))
theorem bX6_hitting {k0 : Nat} {x1 : Int32} {x2 : Int32} {M : Mem} (hM : KS SPf M0 M) : Fr SPf M0 (mX6_hitting k0 x1 x2 M) := by
  unfold mX6_hitting
  exact (Fr.x (bX6_requireStep hM) (fun M3 _ hM3 => (Fr.m (bX2_layStep (by omega) hM3) (fun M7 _ hM7 => (Fr.c (fun r9 => (Fr.ok hM7)))))))
theorem bX6_refused_b11 {k0 : Nat} {M : Mem} (hM : KS SPf M0 M) : Fr SPf M0 (mX6_refused_b11 k0 M) := by
  unfold mX6_refused_b11
  exact (Fr.ok hM)
theorem bX6_refused_b50 {k0 : Nat} {ih25 : Int32 → Int32 → Int32 → Mem → Option (Mem × (Int32 ⊕ Nat))} {x1 : Int32} {x2 : Int32} {x3 : Int32} {M : Mem} (hih25 : ∀ (v0 : Int32) (v1 : Int32) (v2 : Int32) (v3 : Mem), KS SPf M0 v3 → Fr SPf M0 (ih25 v0 v1 v2 v3)) (hM : KS SPf M0 M) : Fr SPf M0 (mX6_refused_b50 k0 ih25 x1 x2 x3 M) := by
  unfold mX6_refused_b50
  exact (Fr.b (fun x3_50 => (hih25 _ _ _ _ hM)))
theorem bX6_refused_b25 {k0 : Nat} {ih25 : Int32 → Int32 → Int32 → Mem → Option (Mem × (Int32 ⊕ Nat))} {x1 : Int32} {x2 : Int32} {x3 : Int32} {M : Mem} (hih25 : ∀ (v0 : Int32) (v1 : Int32) (v2 : Int32) (v3 : Mem), KS SPf M0 v3 → Fr SPf M0 (ih25 v0 v1 v2 v3)) (hM : KS SPf M0 M) : Fr SPf M0 (mX6_refused_b25 k0 ih25 x1 x2 x3 M) := by
  unfold mX6_refused_b25
  exact (Fr.c (fun r4 => (Fr.i (Fr.ok hM) (Fr.m (bX6_reasonNow hM) (fun M9 r8 hM9 => (Fr.i (Fr.b (fun x2_47 => (bX6_refused_b50 hih25 hM9))) (bX6_refused_b50 hih25 hM9)))))))
theorem bX6_refused_l25_n {k0 : Nat} : ∀ (n : Nat) (v0 : Int32) (v1 : Int32) (v2 : Int32) (v3 : Mem), KS SPf M0 v3 → Fr SPf M0 (mX6_refused_l25 k0 n v0 v1 v2 v3) := by
  intro n
  induction n with
  | zero => intro v0 v1 v2 v3 h; exact Fr.n
  | succ n IH => intro v0 v1 v2 v3 h; exact bX6_refused_b25  IH h
theorem bX6_refused_l25 {k0 : Nat} {v0 : Int32} {v1 : Int32} {v2 : Int32} {v3 : Mem} {n : Nat} (h : KS SPf M0 v3) : Fr SPf M0 (mX6_refused_l25 k0 n v0 v1 v2 v3) := bX6_refused_l25_n   n v0 v1 v2 v3 h
theorem bX6_refused {k0 : Nat} {x1 : Int32} {M : Mem} (hM : KS SPf M0 M) : Fr SPf M0 (mX6_refused k0 x1 M) := by
  unfold mX6_refused
  exact (Fr.i (bX6_refused_b11 hM) (Fr.i (bX6_refused_l25 hM) (bX6_refused_b11 hM)))
theorem bX6_possible {k0 : Nat} {M : Mem} (hM : KS SPf M0 M) : Fr SPf M0 (mX6_possible k0 M) := by
  unfold mX6_possible
  exact (Fr.m (bX2_possibleSteps (by omega) hM) (fun M3 r2 hM3 => (Fr.ok hM3)))
theorem bX6_stuck_b73 {k0 : Nat} {ih23 : Int32 → Int32 → Int32 → Mem → Option (Mem × Int32)} {x1 : Int32} {x2 : Int32} {x3 : Int32} {M : Mem} (hih23 : ∀ (v0 : Int32) (v1 : Int32) (v2 : Int32) (v3 : Mem), KS SPf M0 v3 → Fr SPf M0 (ih23 v0 v1 v2 v3)) (hM : KS SPf M0 M) : Fr SPf M0 (mX6_stuck_b73 k0 ih23 x1 x2 x3 M) := by
  unfold mX6_stuck_b73
  exact (Fr.b (fun x3_73 => (hih23 _ _ _ _ hM)))
theorem bX6_stuck_b53 {k0 : Nat} {ih23 : Int32 → Int32 → Int32 → Mem → Option (Mem × Int32)} {x1 : Int32} {x2 : Int32} {x3 : Int32} {y0 : Int32} {M : Mem} (hih23 : ∀ (v0 : Int32) (v1 : Int32) (v2 : Int32) (v3 : Mem), KS SPf M0 v3 → Fr SPf M0 (ih23 v0 v1 v2 v3)) (hM : KS SPf M0 M) : Fr SPf M0 (mX6_stuck_b53 k0 ih23 x1 x2 x3 y0 M) := by
  unfold mX6_stuck_b53
  exact (Fr.i (Fr.i (Fr.b (fun x2_70 => (bX6_stuck_b73 hih23 hM))) (bX6_stuck_b73 hih23 hM)) (bX6_stuck_b73 hih23 hM))
theorem bX6_stuck_b23 {k0 : Nat} {ih23 : Int32 → Int32 → Int32 → Mem → Option (Mem × Int32)} {x1 : Int32} {x2 : Int32} {x3 : Int32} {M : Mem} (hih23 : ∀ (v0 : Int32) (v1 : Int32) (v2 : Int32) (v3 : Mem), KS SPf M0 v3 → Fr SPf M0 (ih23 v0 v1 v2 v3)) (hM : KS SPf M0 M) : Fr SPf M0 (mX6_stuck_b23 k0 ih23 x1 x2 x3 M) := by
  unfold mX6_stuck_b23
  exact (Fr.c (fun r5 => (Fr.i (Fr.ok hM) (Fr.i (bX6_stuck_b53 hih23 hM) (bX6_stuck_b53 hih23 hM)))))
theorem bX6_stuck_l23_n {k0 : Nat} : ∀ (n : Nat) (v0 : Int32) (v1 : Int32) (v2 : Int32) (v3 : Mem), KS SPf M0 v3 → Fr SPf M0 (mX6_stuck_l23 k0 n v0 v1 v2 v3) := by
  intro n
  induction n with
  | zero => intro v0 v1 v2 v3 h; exact Fr.n
  | succ n IH => intro v0 v1 v2 v3 h; exact bX6_stuck_b23  IH h
theorem bX6_stuck_l23 {k0 : Nat} {v0 : Int32} {v1 : Int32} {v2 : Int32} {v3 : Mem} {n : Nat} (h : KS SPf M0 v3) : Fr SPf M0 (mX6_stuck_l23 k0 n v0 v1 v2 v3) := bX6_stuck_l23_n   n v0 v1 v2 v3 h
theorem bX6_stuck {k0 : Nat} {M : Mem} (hM : KS SPf M0 M) : Fr SPf M0 (mX6_stuck k0 M) := by
  unfold mX6_stuck
  exact (Fr.m (bX2_possibleSteps (by omega) hM) (fun M3 r2 hM3 => (bX6_stuck_l23 hM3)))
theorem bX6_written_b15 {k0 : Nat} {g : Int32} {M : Mem} (hM : KS SPf M0 M) : Fr SPf M0 (mX6_written_b15 k0 g M) := by
  unfold mX6_written_b15
  exact (Fr.ok hM)
theorem bX6_written {k0 : Nat} {x1 : Int32} {M : Mem} (hM : KS SPf M0 M) : Fr SPf M0 (mX6_written k0 x1 M) := by
  unfold mX6_written
  exact (Fr.i (bX6_written_b15 hM) (Fr.c (fun r3 => (Fr.i (Fr.c (fun r7 => (Fr.k (Fr.ok hM)))) (bX6_written_b15 hM)))))
end FFpfc
/-! what writing writes (printed) -/
abbrev SW (k _ : Nat) : Prop := 133 ≤ k
section FFwrc
variable {M0 : Mem}
theorem sbw_5 {v : Int32} : 133 ≤ sbv 133 v := by
  unfold sbv
  split
  · omega
  · split <;> omega
theorem zJ6_getChars_ba4f3_b104 {k0 : Nat} {n0 : Nat} {x5 : Int32} {x6 : Int32} {M : Mem} (wk0 : 133 ≤ k0) (hM : KS SW M0 M) : Fr SW M0 (mJ6_getChars_ba4f3_b104 k0 n0 x5 x6 M) := by
  unfold mJ6_getChars_ba4f3_b104
  exact (Fr.i (Fr.ok hM) (Fr.b (fun x5_110 => (Fr.k (Fr.bw (show 133 ≤ _ by first | omega | exact sbw_5) hM (fun M14 hM14 => (Fr.ok hM14)))))))
theorem zJ6_getChars_ba4f3_b22 {k0 : Nat} {n0 : Nat} {ih22 : Int32 → Int32 → Int32 → Mem → Option (Mem × Int32)} {x0 : Int32} {x5 : Int32} {x6 : Int32} {M : Mem} (wk0 : 133 ≤ k0) (hih22 : ∀ (v0 : Int32) (v1 : Int32) (v2 : Int32) (v3 : Mem), KS SW M0 v3 → Fr SW M0 (ih22 v0 v1 v2 v3)) (hM : KS SW M0 M) : Fr SW M0 (mJ6_getChars_ba4f3_b22 k0 n0 ih22 x0 x5 x6 M) := by
  unfold mJ6_getChars_ba4f3_b22
  exact (Fr.i (Fr.b (fun x5_73 => (Fr.k (Fr.k (Fr.bw (show 133 ≤ _ by first | omega | exact sbw_5) hM (fun M8 hM8 => (Fr.i (zJ6_getChars_ba4f3_b104 (by first | omega | exact sbw_5) hM8) (Fr.b (fun x5_92 => (Fr.k (Fr.k (Fr.bw (show 133 ≤ _ by first | omega | exact sbw_5) hM8 (fun M19 hM19 => (zJ6_getChars_ba4f3_b104 (by first | omega | exact sbw_5) hM19)))))))))))))) (Fr.b (fun x3_32 => (Fr.b (fun x4_39 => (Fr.b (fun x5_44 => (Fr.k (Fr.k (Fr.bw (show 133 ≤ _ by first | omega | exact sbw_5) hM (fun M26 hM26 => (Fr.b (fun x5_57 => (Fr.k (Fr.k (Fr.bw (show 133 ≤ _ by first | omega | exact sbw_5) hM26 (fun M31 hM31 => (hih22 _ _ _ _ hM31))))))))))))))))))
theorem zJ6_getChars_ba4f3_l22_n {k0 : Nat} {n0 : Nat} (wk0 : 133 ≤ k0) : ∀ (n : Nat) (v0 : Int32) (v1 : Int32) (v2 : Int32) (v3 : Mem), KS SW M0 v3 → Fr SW M0 (mJ6_getChars_ba4f3_l22 k0 n0 n v0 v1 v2 v3) := by
  intro n
  induction n with
  | zero => intro v0 v1 v2 v3 h; exact Fr.n
  | succ n IH => intro v0 v1 v2 v3 h; exact zJ6_getChars_ba4f3_b22 (by omega) IH h
theorem zJ6_getChars_ba4f3_l22 {k0 : Nat} {n0 : Nat} {v0 : Int32} {v1 : Int32} {v2 : Int32} {v3 : Mem} (wk0 : 133 ≤ k0) {n : Nat} (h : KS SW M0 v3) : Fr SW M0 (mJ6_getChars_ba4f3_l22 k0 n0 n v0 v1 v2 v3) := zJ6_getChars_ba4f3_l22_n wk0  n v0 v1 v2 v3 h
theorem zJ6_getChars_ba4f3_b12 {k0 : Nat} {n0 : Nat} {x0 : Int32} {x5 : Int32} {y0 : Int32} {M : Mem} (wk0 : 133 ≤ k0) (hM : KS SW M0 M) : Fr SW M0 (mJ6_getChars_ba4f3_b12 k0 n0 x0 x5 y0 M) := by
  unfold mJ6_getChars_ba4f3_b12
  exact (Fr.i (Fr.b (fun x0_21 => (zJ6_getChars_ba4f3_l22 (by first | omega | exact sbw_5) hM))) (zJ6_getChars_ba4f3_l22 (by first | omega | exact sbw_5) hM))
theorem zJ6_getChars_ba4f3 {k0 : Nat} {n0 : Nat} {x0 : Int32} {x1 : Int32} {M : Mem} (wk0 : 133 ≤ k0) (hM : KS SW M0 M) : Fr SW M0 (mJ6_getChars_ba4f3 k0 n0 x0 x1 M) := by
  unfold mJ6_getChars_ba4f3
  exact (Fr.i (zJ6_getChars_ba4f3_b12 (by first | omega | exact sbw_5) hM) (zJ6_getChars_ba4f3_b12 (by first | omega | exact sbw_5) hM))
theorem ks_zrw {k : Nat} {M : Mem} (h : KS SW M0 M) (hk : 133 ≤ k) : KS SW M0 (zr M k) := fun k' j' q => by
  have e : k' ≠ k := fun e => q (by show 133 ≤ k'; omega)
  rw [← h k' j' q]
  show (if k' = k then (fun _ => 0) else M.1 k') j' = M.1 k' j'
  rw [if_neg e]
theorem zJ5_ensureCapacityInternal_d00df {x1 : Int32} {M : Mem} (hM : KS SW M0 M) : Fr SW M0 (mJ5_ensureCapacityInternal_d00df x1 M) := by
  unfold mJ5_ensureCapacityInternal_d00df
  refine Fr.b (fun x2_10 => Fr.i (Fr.ok hM) (Fr.c (fun r6 => Fr.k (Fr.bw (show 133 ≤ _ by omega) ?_ (fun M9 h9 => Fr.ok h9)))))
  exact (ks_zrw hM sbw_5).cp (fun _ => sbw_5)
theorem ks_cpSw {a b c : Nat} {M : Mem} (h : KS SW M0 M) (hk : 133 ≤ b) : KS SW M0 (cpS M a b c) := fun k' j' q => by
  have e : k' ≠ b := fun e => q (by show 133 ≤ k'; omega)
  rw [← h k' j' q]
  exact congrFun (cpS_o (M := M) (i := a) (b := b) (dp := c) k' e).1 j'
theorem zJ0_getBytes_840e7 {k0 : Nat} {k1 : Nat} {n1 : Nat} {x2 : Int32} {x3 : Int32} {M : Mem} (wk1 : 133 ≤ k1) (hM : KS SW M0 M) : Fr SW M0 (mJ0_getBytes_840e7 k0 k1 n1 x2 x3 M) := by
  unfold mJ0_getBytes_840e7
  exact Fr.c (fun r2 => Fr.i (Fr.k (show Fr SW M0 (some (_, ())) from Fr.ok (ks_cpSw hM wk1))) Fr.n)
theorem zJ5_putStringAt_47b60 {k0 : Nat} {x1 : Int32} {M : Mem} (hM : KS SW M0 M) : Fr SW M0 (mJ5_putStringAt_47b60 k0 x1 M) := by
  unfold mJ5_putStringAt_47b60
  exact (Fr.c (fun r2 => (Fr.m (zJ0_getBytes_840e7 (by first | omega | exact sbw_5) hM) (fun M7 _ hM7 => (Fr.ok hM7)))))
theorem zJ5_append_3fe6f_b45 {g : Int32} {x1 : Int32} {M : Mem} (hM : KS SW M0 M) : Fr SW M0 (mJ5_append_3fe6f_b45 g x1 M) := by
  unfold mJ5_append_3fe6f_b45
  exact (Fr.k (Fr.c (fun r10 => (Fr.i (Fr.k (Fr.bw (show 133 ≤ _ by first | omega | exact sbw_5) hM (fun M14 hM14 => Fr.n))) Fr.n))))
theorem zJ5_append_3fe6f {x1 : Int32} {M : Mem} (hM : KS SW M0 M) : Fr SW M0 (mJ5_append_3fe6f x1 M) := by
  unfold mJ5_append_3fe6f
  exact (Fr.m (zJ5_ensureCapacityInternal_d00df hM) (fun M3 _ hM3 => (Fr.c (fun r5 => (Fr.i (zJ5_append_3fe6f_b45 hM3) (Fr.c (fun r17 => (Fr.i (zJ5_append_3fe6f_b45 hM3) (Fr.bw (show 133 ≤ _ by first | omega | exact sbw_5) hM3 (fun M21 hM21 => (Fr.k (Fr.bw (show 133 ≤ _ by first | omega | exact sbw_5) hM21 (fun M25 hM25 => (Fr.k (Fr.ok hM25)))))))))))))))
theorem zJ5_append_c97b9 {x1 : Int32} {M : Mem} (hM : KS SW M0 M) : Fr SW M0 (mJ5_append_c97b9 x1 M) := by
  unfold mJ5_append_c97b9
  exact (Fr.b (fun x2_4 => (Fr.c (fun r3 => (Fr.b (fun x3_11 => (Fr.m (zJ5_ensureCapacityInternal_d00df hM) (fun M8 _ hM8 => (Fr.c (fun r10 => (Fr.i Fr.n (Fr.m (zJ6_getChars_ba4f3 (by first | omega | exact sbw_5) hM8) (fun M17 r16 hM17 => (Fr.bw (show 133 ≤ _ by first | omega | exact sbw_5) hM17 (fun M18 hM18 => (Fr.k (Fr.ok hM18)))))))))))))))))
theorem zJ5_append_cf1ce {k0 : Nat} {M : Mem} (hM : KS SW M0 M) : Fr SW M0 (mJ5_append_cf1ce k0 M) := by
  unfold mJ5_append_cf1ce
  exact (Fr.c (fun r2 => (Fr.m (zJ5_ensureCapacityInternal_d00df hM) (fun M6 _ hM6 => (Fr.m (zJ5_putStringAt_47b60 hM6) (fun M9 _ hM9 => (Fr.bw (show 133 ≤ _ by first | omega | exact sbw_5) hM9 (fun M10 hM10 => (Fr.k (Fr.ok hM10))))))))))
theorem zJ4_append_cf468 {x1 : Int32} {M : Mem} (hM : KS SW M0 M) : Fr SW M0 (mJ4_append_cf468 x1 M) := by
  unfold mJ4_append_cf468
  exact (Fr.m (zJ5_append_3fe6f hM) (fun M3 _ hM3 => (Fr.ok hM3)))
theorem zJ4_append_bf812 {x1 : Int32} {M : Mem} (hM : KS SW M0 M) : Fr SW M0 (mJ4_append_bf812 x1 M) := by
  unfold mJ4_append_bf812
  exact (Fr.m (zJ5_append_c97b9 hM) (fun M3 _ hM3 => (Fr.ok hM3)))
theorem zJ4_append_15ec4 {k0 : Nat} {M : Mem} (hM : KS SW M0 M) : Fr SW M0 (mJ4_append_15ec4 k0 M) := by
  unfold mJ4_append_15ec4
  exact (Fr.m (zJ5_append_cf1ce hM) (fun M3 _ hM3 => (Fr.ok hM3)))
theorem zJ5_setLength_d00df {x1 : Int32} {M : Mem} (hM : KS SW M0 M) : Fr SW M0 (mJ5_setLength_d00df x1 M) := by
  unfold mJ5_setLength_d00df
  exact (Fr.i (Fr.m (zJ5_ensureCapacityInternal_d00df hM) (fun M4 _ hM4 => (Fr.i (Fr.i (Fr.bw (show 133 ≤ _ by first | omega | exact sbw_5) hM4 (fun M7 hM7 => (Fr.k (Fr.ok hM7)))) (Fr.bw (show 133 ≤ _ by first | omega | exact sbw_5) hM4 (fun M10 hM10 => (Fr.bw (show 133 ≤ _ by first | omega | exact sbw_5) hM10 (fun M12 hM12 => (Fr.k (Fr.ok hM12))))))) (Fr.c (fun r16 => (Fr.i Fr.n Fr.n)))))) Fr.n)
theorem zJ4_setLength_d00df {x1 : Int32} {M : Mem} (hM : KS SW M0 M) : Fr SW M0 (mJ4_setLength_d00df x1 M) := by
  unfold mJ4_setLength_d00df
  exact (Fr.m (zJ5_setLength_d00df hM) (fun M3 _ hM3 => (Fr.ok hM3)))
theorem zX6_writeBend_b22 {k0 : Nat} {g : Int32} {x1 : Int32} {y1 : Int32} {M : Mem} (hM : KS SW M0 M) : Fr SW M0 (mX6_writeBend_b22 k0 g x1 y1 M) := by
  unfold mX6_writeBend_b22
  exact (Fr.k (Fr.m (zJ4_append_cf468 hM) (fun M8 _ hM8 => (Fr.i (Fr.ok hM8) (Fr.m (zJ4_append_cf468 hM8) (fun M12 _ hM12 => (Fr.ok hM12)))))))
theorem zX6_writeBend {k0 : Nat} {x1 : Int32} {M : Mem} (hM : KS SW M0 M) : Fr SW M0 (mX6_writeBend k0 x1 M) := by
  unfold mX6_writeBend
  exact (Fr.c (fun r2 => (Fr.i (zX6_writeBend_b22 hM) (zX6_writeBend_b22 hM))))
theorem zX6_write_b97 {k0 : Nat} {g : Int32} {M : Mem} (hM : KS SW M0 M) : Fr SW M0 (mX6_write_b97 k0 g M) := by
  unfold mX6_write_b97
  exact (Fr.k (Fr.c (fun r8 => (Fr.k (Fr.ok hM)))))
theorem zX6_write_b61 {k0 : Nat} {g : Int32} {M : Mem} (hM : KS SW M0 M) : Fr SW M0 (mX6_write_b61 k0 g M) := by
  unfold mX6_write_b61
  exact (Fr.i (zX6_write_b97 hM) (Fr.k (Fr.m (zJ4_append_15ec4 hM) (fun M14 _ hM14 => (Fr.c (fun r16 => (Fr.m (zJ4_append_bf812 hM14) (fun M20 _ hM20 => (zX6_write_b97 hM20)))))))))
theorem zX6_write_b38 {k0 : Nat} {g : Int32} {ih10 : Int32 → Int32 → Mem → Option (Mem × Int32)} {x1 : Int32} {M : Mem} (hih10 : ∀ (v0 : Int32) (v1 : Int32) (v2 : Mem), KS SW M0 v2 → Fr SW M0 (ih10 v0 v1 v2)) (hM : KS SW M0 M) : Fr SW M0 (mX6_write_b38 k0 g ih10 x1 M) := by
  unfold mX6_write_b38
  exact (Fr.k (Fr.k (Fr.m (zJ4_append_bf812 hM) (fun M27 _ hM27 => (Fr.b (fun x1_55 => (hih10 _ _ _ hM27)))))))
theorem zX6_write_b10 {k0 : Nat} {g : Int32} {ih10 : Int32 → Int32 → Mem → Option (Mem × Int32)} {x1 : Int32} {M : Mem} (hih10 : ∀ (v0 : Int32) (v1 : Int32) (v2 : Mem), KS SW M0 v2 → Fr SW M0 (ih10 v0 v1 v2)) (hM : KS SW M0 M) : Fr SW M0 (mX6_write_b10 k0 g ih10 x1 M) := by
  unfold mX6_write_b10
  exact (Fr.k (Fr.i (zX6_write_b61 hM) (Fr.i (zX6_write_b61 hM) (Fr.i (zX6_write_b38 hih10 hM) (Fr.k (Fr.m (zX6_writeBend hM) (fun M32 _ hM32 => (zX6_write_b38 hih10 hM32))))))))
theorem zX6_write_l10_n {k0 : Nat} : ∀ (n : Nat) (v0 : Int32) (v1 : Int32) (v2 : Mem), KS SW M0 v2 → Fr SW M0 (mX6_write_l10 k0 n v0 v1 v2) := by
  intro n
  induction n with
  | zero => intro v0 v1 v2 h; exact Fr.n
  | succ n IH => intro v0 v1 v2 h; exact zX6_write_b10 IH h
theorem zX6_write_l10 {k0 : Nat} {v0 : Int32} {v1 : Int32} {v2 : Mem} {n : Nat} (h : KS SW M0 v2) : Fr SW M0 (mX6_write_l10 k0 n v0 v1 v2) := zX6_write_l10_n n v0 v1 v2 h
theorem zX6_write {k0 : Nat} {M : Mem} (hM : KS SW M0 M) : Fr SW M0 (mX6_write k0 M) := by
  unfold mX6_write
  exact (Fr.m (zJ4_setLength_d00df hM) (fun M3 _ hM3 => (zX6_write_l10 hM3)))
end FFwrc
