/-! frames of the reference, reading a text left out (printed) -/
abbrev SB2 (k j : Nat) : Prop := k ≠ 140 ∧ ¬ (k = 135 ∧ (j = 7 ∨ j = 8 ∨ j = 9))
section FFref
variable {M0 : Mem}
theorem fX7_good {x1 : Int32} {M : Mem} (hM : KS SB2 M0 M) : Fr SB2 M0 (mX7_good 135 x1 M) := by
  unfold mX7_good
  exact (Fr.i (Fr.bw (by decide) hM (fun M2 hM2 => (Fr.k (Fr.ok hM2)))) (Fr.bw (by decide) hM (fun M5 hM5 => (Fr.k (Fr.ok hM5)))))
theorem fX7_good__b18 {y1 : Int32} {M : Mem} (hM : KS SB2 M0 M) : Fr SB2 M0 (mX7_good__b18 135 y1 M) := by
  unfold mX7_good__b18
  exact (Fr.bw (by decide) hM (fun M3 hM3 => (Fr.i (Fr.ok hM3) (Fr.ok hM3))))
theorem fX7_good_ {x1 : Int32} {x2 : Int32} {M : Mem} (hM : KS SB2 M0 M) : Fr SB2 M0 (mX7_good_ 135 x1 x2 M) := by
  unfold mX7_good_
  exact (Fr.i (fX7_good__b18 hM) (Fr.i (fX7_good__b18 hM) (fX7_good__b18 hM)))
theorem fX7_good___b26 {y1 : Int32} {M : Mem} (hM : KS SB2 M0 M) : Fr SB2 M0 (mX7_good___b26 135 y1 M) := by
  unfold mX7_good___b26
  exact (Fr.bw (by decide) hM (fun M4 hM4 => (Fr.i (Fr.ok hM4) (Fr.ok hM4))))
theorem fX7_good__ {x1 : Int32} {x2 : Int32} {x3 : Int32} {M : Mem} (hM : KS SB2 M0 M) : Fr SB2 M0 (mX7_good__ 135 x1 x2 x3 M) := by
  unfold mX7_good__
  exact (Fr.i (fX7_good___b26 hM) (Fr.i (fX7_good___b26 hM) (Fr.i (fX7_good___b26 hM) (fX7_good___b26 hM))))
theorem fX7_remember_b52 {ih52 : Int32 → Mem → Option (Mem × Unit)} {x1 : Int32} {M : Mem} (hih52 : ∀ (v0 : Int32) (v1 : Mem), KS SB2 M0 v1 → Fr SB2 M0 (ih52 v0 v1)) (hM : KS SB2 M0 M) : Fr SB2 M0 (mX7_remember_b52 135 ih52 x1 M) := by
  unfold mX7_remember_b52
  exact (Fr.i (Fr.bw (by decide) hM (fun M3 hM3 => (Fr.ok hM3))) (Fr.k (Fr.k (Fr.bw ⟨by decide, fun q => absurd q.1 (by decide)⟩ hM (fun M8 hM8 => (Fr.b (fun x1_78 => (hih52 _ _ hM8))))))))
theorem fX7_remember_l52_n  : ∀ (n : Nat) (v0 : Int32) (v1 : Mem), KS SB2 M0 v1 → Fr SB2 M0 (mX7_remember_l52 135 n v0 v1) := by
  intro n
  induction n with
  | zero => intro v0 v1 h; exact Fr.n
  | succ n IH => intro v0 v1 h; exact fX7_remember_b52  IH h
theorem fX7_remember_l52  {v0 : Int32} {v1 : Mem} {n : Nat} (h : KS SB2 M0 v1) : Fr SB2 M0 (mX7_remember_l52 135 n v0 v1) := fX7_remember_l52_n   n v0 v1 h
theorem fX7_remember_b50 {M : Mem} (hM : KS SB2 M0 M) : Fr SB2 M0 (mX7_remember_b50 135 M) := by
  unfold mX7_remember_b50
  exact (fX7_remember_l52 hM)
theorem fX7_remember_b12 {ih12 : Int32 → Mem → Option (Mem × Unit)} {x1 : Int32} {M : Mem} (hih12 : ∀ (v0 : Int32) (v1 : Mem), KS SB2 M0 v1 → Fr SB2 M0 (ih12 v0 v1)) (hM : KS SB2 M0 M) : Fr SB2 M0 (mX7_remember_b12 135 ih12 x1 M) := by
  unfold mX7_remember_b12
  exact (Fr.i (Fr.bw (by decide) hM (fun M11 hM11 => (fX7_remember_b50 hM11))) (Fr.k (Fr.k (Fr.bw ⟨by decide, fun q => absurd q.1 (by decide)⟩ hM (fun M16 hM16 => (Fr.b (fun x1_34 => (hih12 _ _ hM16))))))))
theorem fX7_remember_l12_n  : ∀ (n : Nat) (v0 : Int32) (v1 : Mem), KS SB2 M0 v1 → Fr SB2 M0 (mX7_remember_l12 135 n v0 v1) := by
  intro n
  induction n with
  | zero => intro v0 v1 h; exact Fr.n
  | succ n IH => intro v0 v1 h; exact fX7_remember_b12  IH h
theorem fX7_remember_l12  {v0 : Int32} {v1 : Mem} {n : Nat} (h : KS SB2 M0 v1) : Fr SB2 M0 (mX7_remember_l12 135 n v0 v1) := fX7_remember_l12_n   n v0 v1 h
theorem fX7_remember {M : Mem} (hM : KS SB2 M0 M) : Fr SB2 M0 (mX7_remember 135 M) := by
  unfold mX7_remember
  exact (Fr.i (fX7_remember_l12 hM) (fX7_remember_b50 hM))
theorem fX7_undo_b26 {ih26 : Int32 → Mem → Option (Mem × Int32)} {x1 : Int32} {M : Mem} (hih26 : ∀ (v0 : Int32) (v1 : Mem), KS SB2 M0 v1 → Fr SB2 M0 (ih26 v0 v1)) (hM : KS SB2 M0 M) : Fr SB2 M0 (mX7_undo_b26 135 ih26 x1 M) := by
  unfold mX7_undo_b26
  exact (Fr.i (Fr.ok hM) (Fr.k (Fr.k (Fr.bw ⟨by decide, fun q => absurd q.1 (by decide)⟩ hM (fun M10 hM10 => (Fr.b (fun x1_52 => (hih26 _ _ hM10))))))))
theorem fX7_undo_l26_n  : ∀ (n : Nat) (v0 : Int32) (v1 : Mem), KS SB2 M0 v1 → Fr SB2 M0 (mX7_undo_l26 135 n v0 v1) := by
  intro n
  induction n with
  | zero => intro v0 v1 h; exact Fr.n
  | succ n IH => intro v0 v1 h; exact fX7_undo_b26  IH h
theorem fX7_undo_l26  {v0 : Int32} {v1 : Mem} {n : Nat} (h : KS SB2 M0 v1) : Fr SB2 M0 (mX7_undo_l26 135 n v0 v1) := fX7_undo_l26_n   n v0 v1 h
theorem fX7_undo {M : Mem} (hM : KS SB2 M0 M) : Fr SB2 M0 (mX7_undo 135 M) := by
  unfold mX7_undo
  exact (Fr.bw (by decide) hM (fun M1 hM1 => (Fr.i (Fr.ok hM1) (Fr.bw (by decide) hM1 (fun M4 hM4 => (fX7_undo_l26 hM4))))))
theorem fX7_errorKind {M : Mem} (hM : KS SB2 M0 M) : Fr SB2 M0 (mX7_errorKind 135 M) := by
  unfold mX7_errorKind
  exact (Fr.bw (by decide) hM (fun M1 hM1 => (Fr.ok hM1)))
theorem fX7_errorPosition {M : Mem} (hM : KS SB2 M0 M) : Fr SB2 M0 (mX7_errorPosition 135 M) := by
  unfold mX7_errorPosition
  exact (Fr.bw (by decide) hM (fun M1 hM1 => (Fr.ok hM1)))
theorem fX7_tellNow {x1 : Int32} {M : Mem} (hM : KS SB2 M0 M) : Fr SB2 M0 (mX7_tellNow 135 x1 M) := by
  unfold mX7_tellNow
  exact (Fr.bw (by decide) hM (fun M1 hM1 => (Fr.k (Fr.ok hM1))))
theorem fX7_bends {M : Mem} (hM : KS SB2 M0 M) : Fr SB2 M0 (mX7_bends 135 M) := by
  unfold mX7_bends
  exact (Fr.m (fX7_tellNow hM) (fun M3 r2 hM3 => (Fr.ok hM3)))
theorem fX7_legs {M : Mem} (hM : KS SB2 M0 M) : Fr SB2 M0 (mX7_legs 135 M) := by
  unfold mX7_legs
  exact (Fr.m (fX7_tellNow hM) (fun M3 r2 hM3 => (Fr.ok hM3)))
theorem fX7_leg {x1 : Int32} {M : Mem} (hM : KS SB2 M0 M) : Fr SB2 M0 (mX7_leg 135 x1 M) := by
  unfold mX7_leg
  exact (Fr.c (fun r2 => (Fr.m (fX7_good hM) (fun M6 r5 hM6 => (Fr.i (Fr.ok hM6) (Fr.k (Fr.ok hM6)))))))
theorem fX7_isUp {x1 : Int32} {M : Mem} (hM : KS SB2 M0 M) : Fr SB2 M0 (mX7_isUp 135 x1 M) := by
  unfold mX7_isUp
  exact (Fr.c (fun r2 => (Fr.m (fX7_good hM) (fun M6 r5 hM6 => (Fr.i (Fr.ok hM6) (Fr.k (Fr.i (Fr.ok hM6) (Fr.ok hM6))))))))
theorem fX7_deduction {M : Mem} (hM : KS SB2 M0 M) : Fr SB2 M0 (mX7_deduction 135 M) := by
  unfold mX7_deduction
  exact (Fr.bw (by decide) hM (fun M1 hM1 => (Fr.c (fun r4 => (Fr.ok hM1)))))
theorem fX7_flatLength {M : Mem} (hM : KS SB2 M0 M) : Fr SB2 M0 (mX7_flatLength 135 M) := by
  unfold mX7_flatLength
  exact (Fr.bw (by decide) hM (fun M1 hM1 => (Fr.k (Fr.i (Fr.ok hM1) (Fr.k (Fr.c (fun r7 => (Fr.k (Fr.c (fun r11 => (Fr.k (Fr.k (Fr.ok hM1)))))))))))))
theorem fX7_linePlace {x1 : Int32} {M : Mem} (hM : KS SB2 M0 M) : Fr SB2 M0 (mX7_linePlace 135 x1 M) := by
  unfold mX7_linePlace
  exact (Fr.c (fun r2 => (Fr.m (fX7_good hM) (fun M6 r5 hM6 => (Fr.i (Fr.ok hM6) (Fr.c (fun r9 => (Fr.k (Fr.c (fun r13 => (Fr.k (Fr.k (Fr.ok hM6)))))))))))))
theorem fX7_ratio {M : Mem} (hM : KS SB2 M0 M) : Fr SB2 M0 (mX7_ratio 135 M) := by
  unfold mX7_ratio
  exact (Fr.bw (by decide) hM (fun M1 hM1 => (Fr.c (fun r4 => (Fr.ok hM1)))))
theorem fX7_springBack {M : Mem} (hM : KS SB2 M0 M) : Fr SB2 M0 (mX7_springBack 135 M) := by
  unfold mX7_springBack
  exact (Fr.bw (by decide) hM (fun M1 hM1 => (Fr.c (fun r4 => (Fr.c (fun r7 => (Fr.ok hM1)))))))
theorem fX7_springBackFor_b20 {x1 : UInt64} {y1 : Int32} {M : Mem} (hM : KS SB2 M0 M) : Fr SB2 M0 (mX7_springBackFor_b20 135 x1 y1 M) := by
  unfold mX7_springBackFor_b20
  exact (Fr.m (fX7_good hM) (fun M4 r3 hM4 => (Fr.i (Fr.ok hM4) (Fr.c (fun r7 => (Fr.ok hM4))))))
theorem fX7_springBackFor_b19 {x1 : UInt64} {M : Mem} (hM : KS SB2 M0 M) : Fr SB2 M0 (mX7_springBackFor_b19 135 x1 M) := by
  unfold mX7_springBackFor_b19
  exact (fX7_springBackFor_b20 hM)
theorem fX7_springBackFor {x1 : UInt64} {M : Mem} (hM : KS SB2 M0 M) : Fr SB2 M0 (mX7_springBackFor 135 x1 M) := by
  unfold mX7_springBackFor
  exact (Fr.i (fX7_springBackFor_b19 hM) (Fr.i (fX7_springBackFor_b19 hM) (fX7_springBackFor_b20 hM)))
theorem fX7_swingAngle {M : Mem} (hM : KS SB2 M0 M) : Fr SB2 M0 (mX7_swingAngle 135 M) := by
  unfold mX7_swingAngle
  exact (Fr.bw (by decide) hM (fun M1 hM1 => (Fr.c (fun r4 => (Fr.c (fun r7 => (Fr.k (Fr.ok hM1))))))))
theorem fX7_tool {x1 : Int32} {x2 : Int32} {M : Mem} (hM : KS SB2 M0 M) : Fr SB2 M0 (mX7_tool 135 x1 x2 M) := by
  unfold mX7_tool
  exact (Fr.c (fun r2 => (Fr.m (fX7_good hM) (fun M6 r5 hM6 => (Fr.i (Fr.ok hM6) (Fr.k (Fr.ok hM6)))))))
theorem fX7_isSymmetric {M : Mem} (hM : KS SB2 M0 M) : Fr SB2 M0 (mX7_isSymmetric 135 M) := by
  unfold mX7_isSymmetric
  exact (Fr.bw (by decide) hM (fun M1 hM1 => (Fr.k (Fr.c (fun r5 => (Fr.i (Fr.ok hM1) (Fr.k (Fr.c (fun r10 => (Fr.i (Fr.ok hM1) (Fr.ok hM1)))))))))))
theorem fX7_longestLeg_b48 {ih9 : Int32 → Int32 → Mem → Option (Mem × Int32)} {x2 : Int32} {y0 : Int32} {M : Mem} (hih9 : ∀ (v0 : Int32) (v1 : Int32) (v2 : Mem), KS SB2 M0 v2 → Fr SB2 M0 (ih9 v0 v1 v2)) (hM : KS SB2 M0 M) : Fr SB2 M0 (mX7_longestLeg_b48 135 ih9 x2 y0 M) := by
  unfold mX7_longestLeg_b48
  exact (Fr.b (fun x2_49 => (hih9 _ _ _ hM)))
theorem fX7_longestLeg_b43 {ih9 : Int32 → Int32 → Mem → Option (Mem × Int32)} {x2 : Int32} {M : Mem} (hih9 : ∀ (v0 : Int32) (v1 : Int32) (v2 : Mem), KS SB2 M0 v2 → Fr SB2 M0 (ih9 v0 v1 v2)) (hM : KS SB2 M0 M) : Fr SB2 M0 (mX7_longestLeg_b43 135 ih9 x2 M) := by
  unfold mX7_longestLeg_b43
  exact (fX7_longestLeg_b48 hih9 hM)
theorem fX7_longestLeg_b9 {ih9 : Int32 → Int32 → Mem → Option (Mem × Int32)} {x1 : Int32} {x2 : Int32} {M : Mem} (hih9 : ∀ (v0 : Int32) (v1 : Int32) (v2 : Mem), KS SB2 M0 v2 → Fr SB2 M0 (ih9 v0 v1 v2)) (hM : KS SB2 M0 M) : Fr SB2 M0 (mX7_longestLeg_b9 135 ih9 x1 x2 M) := by
  unfold mX7_longestLeg_b9
  exact (Fr.k (Fr.i (Fr.ok hM) (Fr.i (fX7_longestLeg_b43 hih9 hM) (Fr.k (Fr.k (Fr.i (fX7_longestLeg_b48 hih9 hM) (fX7_longestLeg_b43 hih9 hM)))))))
theorem fX7_longestLeg_l9_n  : ∀ (n : Nat) (v0 : Int32) (v1 : Int32) (v2 : Mem), KS SB2 M0 v2 → Fr SB2 M0 (mX7_longestLeg_l9 135 n v0 v1 v2) := by
  intro n
  induction n with
  | zero => intro v0 v1 v2 h; exact Fr.n
  | succ n IH => intro v0 v1 v2 h; exact fX7_longestLeg_b9  IH h
theorem fX7_longestLeg_l9  {v0 : Int32} {v1 : Int32} {v2 : Mem} {n : Nat} (h : KS SB2 M0 v2) : Fr SB2 M0 (mX7_longestLeg_l9 135 n v0 v1 v2) := fX7_longestLeg_l9_n   n v0 v1 v2 h
theorem fX7_longestLeg {M : Mem} (hM : KS SB2 M0 M) : Fr SB2 M0 (mX7_longestLeg 135 M) := by
  unfold mX7_longestLeg
  exact (Fr.bw (by decide) hM (fun M1 hM1 => (fX7_longestLeg_l9 hM1)))
theorem fX7_layLeg {x1 : Int32} {x2 : Int32} {M : Mem} (hM : KS SB2 M0 M) : Fr SB2 M0 (mX7_layLeg 135 x1 x2 M) := by
  unfold mX7_layLeg
  exact (Fr.k (Fr.bw ⟨by decide, fun q => absurd q.1 (by decide)⟩ hM (fun M3 hM3 => (Fr.k (Fr.bw ⟨by decide, fun q => absurd q.1 (by decide)⟩ hM3 (fun M6 hM6 => (Fr.c (fun r8 => (Fr.k (Fr.bw (by decide) hM6 (fun M11 hM11 => (Fr.c (fun r14 => (Fr.k (Fr.bw (by decide) hM11 (fun M17 hM17 => (Fr.k (Fr.bw ⟨by decide, fun q => absurd q.1 (by decide)⟩ hM17 (fun M21 hM21 => (Fr.k (Fr.bw ⟨by decide, fun q => absurd q.1 (by decide)⟩ hM21 (fun M24 hM24 => (Fr.ok hM24)))))))))))))))))))))))
theorem fX7_laySide_b136 {ih16 : Int32 → Int32 → Int32 → Int32 → Int32 → Int32 → Mem → Option (Mem × Unit)} {x2 : Int32} {x4 : Int32} {x5 : Int32} {x6 : Int32} {x7 : Int32} {x8 : Int32} {M : Mem} (hih16 : ∀ (v0 : Int32) (v1 : Int32) (v2 : Int32) (v3 : Int32) (v4 : Int32) (v5 : Int32) (v6 : Mem), KS SB2 M0 v6 → Fr SB2 M0 (ih16 v0 v1 v2 v3 v4 v5 v6)) (hM : KS SB2 M0 M) : Fr SB2 M0 (mX7_laySide_b136 135 ih16 x2 x4 x5 x6 x7 x8 M) := by
  unfold mX7_laySide_b136
  exact (Fr.b (fun x8_140 => (hih16 _ _ _ _ _ _ _ hM)))
theorem fX7_laySide_b131 {ih16 : Int32 → Int32 → Int32 → Int32 → Int32 → Int32 → Mem → Option (Mem × Unit)} {x2 : Int32} {x4 : Int32} {x5 : Int32} {x6 : Int32} {x8 : Int32} {y0 : Int32} {y1 : Int32} {M : Mem} (hih16 : ∀ (v0 : Int32) (v1 : Int32) (v2 : Int32) (v3 : Int32) (v4 : Int32) (v5 : Int32) (v6 : Mem), KS SB2 M0 v6 → Fr SB2 M0 (ih16 v0 v1 v2 v3 v4 v5 v6)) (hM : KS SB2 M0 M) : Fr SB2 M0 (mX7_laySide_b131 135 ih16 x2 x4 x5 x6 x8 y0 y1 M) := by
  unfold mX7_laySide_b131
  exact (Fr.b (fun x7_134 => (fX7_laySide_b136 hih16 hM)))
theorem fX7_laySide_b113 {ih16 : Int32 → Int32 → Int32 → Int32 → Int32 → Int32 → Mem → Option (Mem × Unit)} {x2 : Int32} {x4 : Int32} {x5 : Int32} {x6 : Int32} {x7 : Int32} {x8 : Int32} {y0 : Int32} {M : Mem} (hih16 : ∀ (v0 : Int32) (v1 : Int32) (v2 : Int32) (v3 : Int32) (v4 : Int32) (v5 : Int32) (v6 : Mem), KS SB2 M0 v6 → Fr SB2 M0 (ih16 v0 v1 v2 v3 v4 v5 v6)) (hM : KS SB2 M0 M) : Fr SB2 M0 (mX7_laySide_b113 135 ih16 x2 x4 x5 x6 x7 x8 y0 M) := by
  unfold mX7_laySide_b113
  exact (Fr.i (fX7_laySide_b131 hih16 hM) (fX7_laySide_b131 hih16 hM))
theorem fX7_laySide_b103 {ih16 : Int32 → Int32 → Int32 → Int32 → Int32 → Int32 → Mem → Option (Mem × Unit)} {x2 : Int32} {x4 : Int32} {x5 : Int32} {x6 : Int32} {x7 : Int32} {x8 : Int32} {y0 : Int32} {M : Mem} (hih16 : ∀ (v0 : Int32) (v1 : Int32) (v2 : Int32) (v3 : Int32) (v4 : Int32) (v5 : Int32) (v6 : Mem), KS SB2 M0 v6 → Fr SB2 M0 (ih16 v0 v1 v2 v3 v4 v5 v6)) (hM : KS SB2 M0 M) : Fr SB2 M0 (mX7_laySide_b103 135 ih16 x2 x4 x5 x6 x7 x8 y0 M) := by
  unfold mX7_laySide_b103
  exact (Fr.i (fX7_laySide_b113 hih16 hM) (fX7_laySide_b113 hih16 hM))
theorem fX7_laySide_b53 {ih16 : Int32 → Int32 → Int32 → Int32 → Int32 → Int32 → Mem → Option (Mem × Unit)} {x2 : Int32} {x4 : Int32} {x5 : Int32} {x6 : Int32} {x7 : Int32} {x8 : Int32} {y0 : Int32} {M : Mem} (hih16 : ∀ (v0 : Int32) (v1 : Int32) (v2 : Int32) (v3 : Int32) (v4 : Int32) (v5 : Int32) (v6 : Mem), KS SB2 M0 v6 → Fr SB2 M0 (ih16 v0 v1 v2 v3 v4 v5 v6)) (hM : KS SB2 M0 M) : Fr SB2 M0 (mX7_laySide_b53 135 ih16 x2 x4 x5 x6 x7 x8 y0 M) := by
  unfold mX7_laySide_b53
  exact (Fr.k (Fr.c (fun r14 => (Fr.i (fX7_laySide_b136 hih16 hM) (Fr.c (fun r19 => (Fr.i (fX7_laySide_b136 hih16 hM) (Fr.k (Fr.i (fX7_laySide_b103 hih16 hM) (fX7_laySide_b103 hih16 hM))))))))))
theorem fX7_laySide_b16 {ih16 : Int32 → Int32 → Int32 → Int32 → Int32 → Int32 → Mem → Option (Mem × Unit)} {x2 : Int32} {x4 : Int32} {x5 : Int32} {x6 : Int32} {x7 : Int32} {x8 : Int32} {M : Mem} (hih16 : ∀ (v0 : Int32) (v1 : Int32) (v2 : Int32) (v3 : Int32) (v4 : Int32) (v5 : Int32) (v6 : Mem), KS SB2 M0 v6 → Fr SB2 M0 (ih16 v0 v1 v2 v3 v4 v5 v6)) (hM : KS SB2 M0 M) : Fr SB2 M0 (mX7_laySide_b16 135 ih16 x2 x4 x5 x6 x7 x8 M) := by
  unfold mX7_laySide_b16
  exact (Fr.i (Fr.ok hM) (Fr.k (Fr.i (Fr.ok hM) (Fr.m (fX7_layLeg hM) (fun M10 _ hM10 => (Fr.i (fX7_laySide_b53 hih16 hM10) (fX7_laySide_b53 hih16 hM10)))))))
theorem fX7_laySide_l16_n  : ∀ (n : Nat) (v0 : Int32) (v1 : Int32) (v2 : Int32) (v3 : Int32) (v4 : Int32) (v5 : Int32) (v6 : Mem), KS SB2 M0 v6 → Fr SB2 M0 (mX7_laySide_l16 135 n v0 v1 v2 v3 v4 v5 v6) := by
  intro n
  induction n with
  | zero => intro v0 v1 v2 v3 v4 v5 v6 h; exact Fr.n
  | succ n IH => intro v0 v1 v2 v3 v4 v5 v6 h; exact fX7_laySide_b16  IH h
theorem fX7_laySide_l16  {v0 : Int32} {v1 : Int32} {v2 : Int32} {v3 : Int32} {v4 : Int32} {v5 : Int32} {v6 : Mem} {n : Nat} (h : KS SB2 M0 v6) : Fr SB2 M0 (mX7_laySide_l16 135 n v0 v1 v2 v3 v4 v5 v6) := fX7_laySide_l16_n   n v0 v1 v2 v3 v4 v5 v6 h
theorem fX7_laySide {x1 : Int32} {x2 : Int32} {x3 : Int32} {x4 : Int32} {x5 : Int32} {x6 : Int32} {M : Mem} (hM : KS SB2 M0 M) : Fr SB2 M0 (mX7_laySide 135 x1 x2 x3 x4 x5 x6 M) := by
  unfold mX7_laySide
  exact (Fr.bw (by decide) hM (fun M1 hM1 => (Fr.bw (by decide) hM1 (fun M3 hM3 => (fX7_laySide_l16 hM3)))))
theorem fX7_laySheet_b69 {x3 : Int32} {x4 : Int32} {y1 : Int32} {y2 : Int32} {y3 : Int32} {y4 : Int32} {M : Mem} (hM : KS SB2 M0 M) : Fr SB2 M0 (mX7_laySheet_b69 135 x3 x4 y1 y2 y3 y4 M) := by
  unfold mX7_laySheet_b69
  exact (Fr.m (fX7_laySide hM) (fun M12 _ hM12 => (Fr.ok hM12)))
theorem fX7_laySheet_b60 {x2 : Int32} {x3 : Int32} {x4 : Int32} {y1 : Int32} {y2 : Int32} {y3 : Int32} {M : Mem} (hM : KS SB2 M0 M) : Fr SB2 M0 (mX7_laySheet_b60 135 x2 x3 x4 y1 y2 y3 M) := by
  unfold mX7_laySheet_b60
  exact (Fr.i (fX7_laySheet_b69 hM) (fX7_laySheet_b69 hM))
theorem fX7_laySheet_b40 {x1 : Int32} {x2 : Int32} {x3 : Int32} {x4 : Int32} {y1 : Int32} {y2 : Int32} {y3 : Int32} {y4 : Int32} {M : Mem} (hM : KS SB2 M0 M) : Fr SB2 M0 (mX7_laySheet_b40 135 x1 x2 x3 x4 y1 y2 y3 y4 M) := by
  unfold mX7_laySheet_b40
  exact (Fr.m (fX7_laySide hM) (fun M7 _ hM7 => (Fr.i (fX7_laySheet_b60 hM7) (fX7_laySheet_b60 hM7))))
theorem fX7_laySheet_b31 {x1 : Int32} {x2 : Int32} {x3 : Int32} {x4 : Int32} {y1 : Int32} {y2 : Int32} {y3 : Int32} {M : Mem} (hM : KS SB2 M0 M) : Fr SB2 M0 (mX7_laySheet_b31 135 x1 x2 x3 x4 y1 y2 y3 M) := by
  unfold mX7_laySheet_b31
  exact (Fr.i (fX7_laySheet_b40 hM) (fX7_laySheet_b40 hM))
theorem fX7_laySheet_b17 {x1 : Int32} {x2 : Int32} {x3 : Int32} {y0 : Int32} {M : Mem} (hM : KS SB2 M0 M) : Fr SB2 M0 (mX7_laySheet_b17 135 x1 x2 x3 y0 M) := by
  unfold mX7_laySheet_b17
  exact (Fr.i (fX7_laySheet_b31 hM) (fX7_laySheet_b31 hM))
theorem fX7_laySheet {x1 : Int32} {x2 : Int32} {x3 : Int32} {M : Mem} (hM : KS SB2 M0 M) : Fr SB2 M0 (mX7_laySheet 135 x1 x2 x3 M) := by
  unfold mX7_laySheet
  exact (Fr.k (Fr.i (fX7_laySheet_b17 hM) (fX7_laySheet_b17 hM)))
theorem fX7_reasonOf {x1 : Int32} {x2 : Int32} {x3 : Int32} {M : Mem} (hM : KS SB2 M0 M) : Fr SB2 M0 (mX7_reasonOf 135 x1 x2 x3 M) := by
  unfold mX7_reasonOf
  exact (Fr.c (fun r2 => (Fr.i (Fr.c (fun r6 => (Fr.i (Fr.m (fX7_laySheet hM) (fun M11 _ hM11 => (Fr.c (fun r13 => (Fr.i (Fr.ok hM11) (Fr.c (fun r17 => (Fr.i (Fr.c (fun r21 => (Fr.i (Fr.c (fun r25 => (Fr.i (Fr.ok hM11) (Fr.ok hM11)))) (Fr.ok hM11)))) (Fr.ok hM11))))))))) (Fr.ok hM)))) (Fr.ok hM))))
theorem fX7_layFinished_b66 {ih14 : Int32 → Int32 → Mem → Option (Mem × Unit)} {x2 : Int32} {y0 : Int32} {M : Mem} (hih14 : ∀ (v0 : Int32) (v1 : Int32) (v2 : Mem), KS SB2 M0 v2 → Fr SB2 M0 (ih14 v0 v1 v2)) (hM : KS SB2 M0 M) : Fr SB2 M0 (mX7_layFinished_b66 135 ih14 x2 y0 M) := by
  unfold mX7_layFinished_b66
  exact (Fr.b (fun x2_67 => (hih14 _ _ _ hM)))
theorem fX7_layFinished_b63 {ih14 : Int32 → Int32 → Mem → Option (Mem × Unit)} {x2 : Int32} {y0 : Int32} {y1 : Int32} {M : Mem} (hih14 : ∀ (v0 : Int32) (v1 : Int32) (v2 : Mem), KS SB2 M0 v2 → Fr SB2 M0 (ih14 v0 v1 v2)) (hM : KS SB2 M0 M) : Fr SB2 M0 (mX7_layFinished_b63 135 ih14 x2 y0 y1 M) := by
  unfold mX7_layFinished_b63
  exact (fX7_layFinished_b66 hih14 hM)
theorem fX7_layFinished_b14 {ih14 : Int32 → Int32 → Mem → Option (Mem × Unit)} {x1 : Int32} {x2 : Int32} {M : Mem} (hih14 : ∀ (v0 : Int32) (v1 : Int32) (v2 : Mem), KS SB2 M0 v2 → Fr SB2 M0 (ih14 v0 v1 v2)) (hM : KS SB2 M0 M) : Fr SB2 M0 (mX7_layFinished_b14 135 ih14 x1 x2 M) := by
  unfold mX7_layFinished_b14
  exact (Fr.k (Fr.i (Fr.ok hM) (Fr.m (fX7_layLeg hM) (fun M9 _ hM9 => (Fr.k (Fr.i (fX7_layFinished_b66 hih14 hM9) (Fr.k (Fr.i (fX7_layFinished_b63 hih14 hM9) (fX7_layFinished_b63 hih14 hM9)))))))))
theorem fX7_layFinished_l14_n  : ∀ (n : Nat) (v0 : Int32) (v1 : Int32) (v2 : Mem), KS SB2 M0 v2 → Fr SB2 M0 (mX7_layFinished_l14 135 n v0 v1 v2) := by
  intro n
  induction n with
  | zero => intro v0 v1 v2 h; exact Fr.n
  | succ n IH => intro v0 v1 v2 h; exact fX7_layFinished_b14  IH h
theorem fX7_layFinished_l14  {v0 : Int32} {v1 : Int32} {v2 : Mem} {n : Nat} (h : KS SB2 M0 v2) : Fr SB2 M0 (mX7_layFinished_l14 135 n v0 v1 v2) := fX7_layFinished_l14_n   n v0 v1 v2 h
theorem fX7_layFinished {M : Mem} (hM : KS SB2 M0 M) : Fr SB2 M0 (mX7_layFinished 135 M) := by
  unfold mX7_layFinished
  exact (Fr.bw (by decide) hM (fun M1 hM1 => (Fr.bw (by decide) hM1 (fun M3 hM3 => (fX7_layFinished_l14 hM3)))))
theorem fX7_finishedWidth_b15 {ih15 : Int32 → Int32 → Int32 → Mem → Option (Mem × Int32)} {x1 : Int32} {x2 : Int32} {x3 : Int32} {M : Mem} (hih15 : ∀ (v0 : Int32) (v1 : Int32) (v2 : Int32) (v3 : Mem), KS SB2 M0 v3 → Fr SB2 M0 (ih15 v0 v1 v2 v3)) (hM : KS SB2 M0 M) : Fr SB2 M0 (mX7_finishedWidth_b15 135 ih15 x1 x2 x3 M) := by
  unfold mX7_finishedWidth_b15
  exact (Fr.k (Fr.i (Fr.ok hM) (Fr.k (Fr.b (fun x1_35 => (Fr.k (Fr.b (fun x2_46 => (Fr.b (fun x3_47 => (hih15 _ _ _ _ hM)))))))))))
theorem fX7_finishedWidth_l15_n  : ∀ (n : Nat) (v0 : Int32) (v1 : Int32) (v2 : Int32) (v3 : Mem), KS SB2 M0 v3 → Fr SB2 M0 (mX7_finishedWidth_l15 135 n v0 v1 v2 v3) := by
  intro n
  induction n with
  | zero => intro v0 v1 v2 v3 h; exact Fr.n
  | succ n IH => intro v0 v1 v2 v3 h; exact fX7_finishedWidth_b15  IH h
theorem fX7_finishedWidth_l15  {v0 : Int32} {v1 : Int32} {v2 : Int32} {v3 : Mem} {n : Nat} (h : KS SB2 M0 v3) : Fr SB2 M0 (mX7_finishedWidth_l15 135 n v0 v1 v2 v3) := fX7_finishedWidth_l15_n   n v0 v1 v2 v3 h
theorem fX7_finishedWidth {M : Mem} (hM : KS SB2 M0 M) : Fr SB2 M0 (mX7_finishedWidth 135 M) := by
  unfold mX7_finishedWidth
  exact (Fr.bw (by decide) hM (fun M1 hM1 => (Fr.m (fX7_layFinished hM1) (fun M5 _ hM5 => (fX7_finishedWidth_l15 hM5)))))
theorem fX7_finishedHeight_b15 {ih15 : Int32 → Int32 → Int32 → Mem → Option (Mem × Int32)} {x1 : Int32} {x2 : Int32} {x3 : Int32} {M : Mem} (hih15 : ∀ (v0 : Int32) (v1 : Int32) (v2 : Int32) (v3 : Mem), KS SB2 M0 v3 → Fr SB2 M0 (ih15 v0 v1 v2 v3)) (hM : KS SB2 M0 M) : Fr SB2 M0 (mX7_finishedHeight_b15 135 ih15 x1 x2 x3 M) := by
  unfold mX7_finishedHeight_b15
  exact (Fr.k (Fr.i (Fr.ok hM) (Fr.k (Fr.b (fun x1_35 => (Fr.k (Fr.b (fun x2_46 => (Fr.b (fun x3_47 => (hih15 _ _ _ _ hM)))))))))))
theorem fX7_finishedHeight_l15_n  : ∀ (n : Nat) (v0 : Int32) (v1 : Int32) (v2 : Int32) (v3 : Mem), KS SB2 M0 v3 → Fr SB2 M0 (mX7_finishedHeight_l15 135 n v0 v1 v2 v3) := by
  intro n
  induction n with
  | zero => intro v0 v1 v2 v3 h; exact Fr.n
  | succ n IH => intro v0 v1 v2 v3 h; exact fX7_finishedHeight_b15  IH h
theorem fX7_finishedHeight_l15  {v0 : Int32} {v1 : Int32} {v2 : Int32} {v3 : Mem} {n : Nat} (h : KS SB2 M0 v3) : Fr SB2 M0 (mX7_finishedHeight_l15 135 n v0 v1 v2 v3) := fX7_finishedHeight_l15_n   n v0 v1 v2 v3 h
theorem fX7_finishedHeight {M : Mem} (hM : KS SB2 M0 M) : Fr SB2 M0 (mX7_finishedHeight 135 M) := by
  unfold mX7_finishedHeight
  exact (Fr.bw (by decide) hM (fun M1 hM1 => (Fr.m (fX7_layFinished hM1) (fun M5 _ hM5 => (fX7_finishedHeight_l15 hM5)))))
theorem fX7_isFinishedCrossed {M : Mem} (hM : KS SB2 M0 M) : Fr SB2 M0 (mX7_isFinishedCrossed 135 M) := by
  unfold mX7_isFinishedCrossed
  exact (Fr.bw (by decide) hM (fun M1 hM1 => (Fr.m (fX7_layFinished hM1) (fun M5 _ hM5 => (Fr.c (fun r7 => (Fr.k (Fr.ok hM5))))))))
theorem fX7_finishedCorner {x1 : Int32} {x2 : Int32} {M : Mem} (hM : KS SB2 M0 M) : Fr SB2 M0 (mX7_finishedCorner 135 x1 x2 M) := by
  unfold mX7_finishedCorner
  exact (Fr.c (fun r2 => (Fr.c (fun r5 => (Fr.m (fX7_good_ hM) (fun M9 r8 hM9 => (Fr.i (Fr.ok hM9) (Fr.m (fX7_layFinished hM9) (fun M13 _ hM13 => (Fr.i (Fr.k (Fr.ok hM13)) (Fr.k (Fr.ok hM13))))))))))))
theorem fX7_made {M : Mem} (hM : KS SB2 M0 M) : Fr SB2 M0 (mX7_made 135 M) := by
  unfold mX7_made
  exact (Fr.m (fX7_tellNow hM) (fun M3 r2 hM3 => (Fr.ok hM3)))
theorem fX7_steps {M : Mem} (hM : KS SB2 M0 M) : Fr SB2 M0 (mX7_steps 135 M) := by
  unfold mX7_steps
  exact (Fr.m (fX7_tellNow hM) (fun M3 r2 hM3 => (Fr.ok hM3)))
theorem fX7_step {x1 : Int32} {x2 : Int32} {M : Mem} (hM : KS SB2 M0 M) : Fr SB2 M0 (mX7_step 135 x1 x2 M) := by
  unfold mX7_step
  exact (Fr.k (Fr.c (fun r3 => (Fr.c (fun r6 => (Fr.m (fX7_good_ hM) (fun M10 r9 hM10 => (Fr.i (Fr.ok hM10) (Fr.c (fun r13 => (Fr.ok hM10)))))))))))
theorem fX7_costSoFar {M : Mem} (hM : KS SB2 M0 M) : Fr SB2 M0 (mX7_costSoFar 135 M) := by
  unfold mX7_costSoFar
  exact (Fr.bw (by decide) hM (fun M1 hM1 => (Fr.c (fun r4 => (Fr.ok hM1)))))
theorem fX7_reason {x1 : Int32} {x2 : Int32} {M : Mem} (hM : KS SB2 M0 M) : Fr SB2 M0 (mX7_reason 135 x1 x2 M) := by
  unfold mX7_reason
  exact (Fr.c (fun r2 => (Fr.c (fun r5 => (Fr.m (fX7_good_ hM) (fun M9 r8 hM9 => (Fr.i (Fr.ok hM9) (Fr.k (Fr.m (fX7_reasonOf hM9) (fun M14 r13 hM14 => (Fr.ok hM14)))))))))))
theorem fX7_gaugeOf {x1 : Int32} {x2 : Int32} {x3 : Int32} {M : Mem} (hM : KS SB2 M0 M) : Fr SB2 M0 (mX7_gaugeOf 135 x1 x2 x3 M) := by
  unfold mX7_gaugeOf
  exact (Fr.m (fX7_laySheet hM) (fun M3 _ hM3 => (Fr.c (fun r5 => (Fr.ok hM3)))))
theorem fX7_gauge {x1 : Int32} {x2 : Int32} {M : Mem} (hM : KS SB2 M0 M) : Fr SB2 M0 (mX7_gauge 135 x1 x2 M) := by
  unfold mX7_gauge
  exact (Fr.c (fun r2 => (Fr.c (fun r5 => (Fr.m (fX7_good_ hM) (fun M9 r8 hM9 => (Fr.i (Fr.ok hM9) (Fr.k (Fr.m (fX7_gaugeOf hM9) (fun M14 r13 hM14 => (Fr.ok hM14)))))))))))
theorem fX7_corner_b45 {x1 : Int32} {x2 : Int32} {x3 : Int32} {x4 : Int32} {y1 : Int32} {y2 : Int32} {M : Mem} (hM : KS SB2 M0 M) : Fr SB2 M0 (mX7_corner_b45 135 x1 x2 x3 x4 y1 y2 M) := by
  unfold mX7_corner_b45
  exact (Fr.m (fX7_good_ hM) (fun M11 r10 hM11 => (Fr.i (Fr.ok hM11) (Fr.k (Fr.m (fX7_laySheet hM11) (fun M16 _ hM16 => (Fr.i (Fr.k (Fr.ok hM16)) (Fr.k (Fr.ok hM16)))))))))
theorem fX7_corner_b44 {x1 : Int32} {x2 : Int32} {x3 : Int32} {x4 : Int32} {y1 : Int32} {M : Mem} (hM : KS SB2 M0 M) : Fr SB2 M0 (mX7_corner_b44 135 x1 x2 x3 x4 y1 M) := by
  unfold mX7_corner_b44
  exact (fX7_corner_b45 hM)
theorem fX7_corner_b22 {x1 : Int32} {x2 : Int32} {x3 : Int32} {x4 : Int32} {y1 : Int32} {M : Mem} (hM : KS SB2 M0 M) : Fr SB2 M0 (mX7_corner_b22 135 x1 x2 x3 x4 y1 M) := by
  unfold mX7_corner_b22
  exact (Fr.c (fun r6 => (Fr.i (fX7_corner_b44 hM) (Fr.c (fun r21 => (Fr.i (fX7_corner_b44 hM) (fX7_corner_b45 hM)))))))
theorem fX7_corner_b21 {x1 : Int32} {x2 : Int32} {x3 : Int32} {x4 : Int32} {M : Mem} (hM : KS SB2 M0 M) : Fr SB2 M0 (mX7_corner_b21 135 x1 x2 x3 x4 M) := by
  unfold mX7_corner_b21
  exact (fX7_corner_b22 hM)
theorem fX7_corner {x1 : Int32} {x2 : Int32} {x3 : Int32} {x4 : Int32} {M : Mem} (hM : KS SB2 M0 M) : Fr SB2 M0 (mX7_corner 135 x1 x2 x3 x4 M) := by
  unfold mX7_corner
  exact (Fr.c (fun r2 => (Fr.i (fX7_corner_b21 hM) (Fr.c (fun r25 => (Fr.i (fX7_corner_b21 hM) (fX7_corner_b22 hM)))))))
theorem fX7_top_b73 {ih36 : Int32 → Int32 → Int32 → Int32 → Mem → Option (Mem × Int32)} {x1 : Int32} {x2 : Int32} {x4 : Int32} {y0 : Int32} {M : Mem} (hih36 : ∀ (v0 : Int32) (v1 : Int32) (v2 : Int32) (v3 : Int32) (v4 : Mem), KS SB2 M0 v4 → Fr SB2 M0 (ih36 v0 v1 v2 v3 v4)) (hM : KS SB2 M0 M) : Fr SB2 M0 (mX7_top_b73 135 ih36 x1 x2 x4 y0 M) := by
  unfold mX7_top_b73
  exact (Fr.b (fun x4_74 => (hih36 _ _ _ _ _ hM)))
theorem fX7_top_b36 {ih36 : Int32 → Int32 → Int32 → Int32 → Mem → Option (Mem × Int32)} {x1 : Int32} {x2 : Int32} {x3 : Int32} {x4 : Int32} {M : Mem} (hih36 : ∀ (v0 : Int32) (v1 : Int32) (v2 : Int32) (v3 : Int32) (v4 : Mem), KS SB2 M0 v4 → Fr SB2 M0 (ih36 v0 v1 v2 v3 v4)) (hM : KS SB2 M0 M) : Fr SB2 M0 (mX7_top_b36 135 ih36 x1 x2 x3 x4 M) := by
  unfold mX7_top_b36
  exact (Fr.k (Fr.i (Fr.ok hM) (Fr.c (fun r18 => (Fr.i (Fr.k (fX7_top_b73 hih36 hM)) (fX7_top_b73 hih36 hM))))))
theorem fX7_top_l36_n  : ∀ (n : Nat) (v0 : Int32) (v1 : Int32) (v2 : Int32) (v3 : Int32) (v4 : Mem), KS SB2 M0 v4 → Fr SB2 M0 (mX7_top_l36 135 n v0 v1 v2 v3 v4) := by
  intro n
  induction n with
  | zero => intro v0 v1 v2 v3 v4 h; exact Fr.n
  | succ n IH => intro v0 v1 v2 v3 v4 h; exact fX7_top_b36  IH h
theorem fX7_top_l36  {v0 : Int32} {v1 : Int32} {v2 : Int32} {v3 : Int32} {v4 : Mem} {n : Nat} (h : KS SB2 M0 v4) : Fr SB2 M0 (mX7_top_l36 135 n v0 v1 v2 v3 v4) := fX7_top_l36_n   n v0 v1 v2 v3 v4 h
theorem fX7_top {x1 : Int32} {x2 : Int32} {M : Mem} (hM : KS SB2 M0 M) : Fr SB2 M0 (mX7_top 135 x1 x2 M) := by
  unfold mX7_top
  exact (Fr.c (fun r2 => (Fr.c (fun r5 => (Fr.m (fX7_good_ hM) (fun M9 r8 hM9 => (Fr.i (Fr.ok hM9) (Fr.k (Fr.m (fX7_laySheet hM9) (fun M14 _ hM14 => (fX7_top_l36 hM14)))))))))))
theorem fX7_hitting {x1 : Int32} {x2 : Int32} {M : Mem} (hM : KS SB2 M0 M) : Fr SB2 M0 (mX7_hitting 135 x1 x2 M) := by
  unfold mX7_hitting
  exact (Fr.c (fun r2 => (Fr.c (fun r5 => (Fr.m (fX7_good_ hM) (fun M9 r8 hM9 => (Fr.i (Fr.ok hM9) (Fr.k (Fr.m (fX7_laySheet hM9) (fun M14 _ hM14 => (Fr.c (fun r16 => (Fr.ok hM14)))))))))))))
theorem fX7_refused_b61 {ih22 : Int32 → Int32 → Int32 → Mem → Option (Mem × Int32)} {x1 : Int32} {x3 : Int32} {y0 : Int32} {y1 : Int32} {M : Mem} (hih22 : ∀ (v0 : Int32) (v1 : Int32) (v2 : Int32) (v3 : Mem), KS SB2 M0 v3 → Fr SB2 M0 (ih22 v0 v1 v2 v3)) (hM : KS SB2 M0 M) : Fr SB2 M0 (mX7_refused_b61 135 ih22 x1 x3 y0 y1 M) := by
  unfold mX7_refused_b61
  exact (Fr.b (fun x2_62 => (Fr.b (fun x3_63 => (hih22 _ _ _ _ hM)))))
theorem fX7_refused_b22 {ih22 : Int32 → Int32 → Int32 → Mem → Option (Mem × Int32)} {x1 : Int32} {x2 : Int32} {x3 : Int32} {M : Mem} (hih22 : ∀ (v0 : Int32) (v1 : Int32) (v2 : Int32) (v3 : Mem), KS SB2 M0 v3 → Fr SB2 M0 (ih22 v0 v1 v2 v3)) (hM : KS SB2 M0 M) : Fr SB2 M0 (mX7_refused_b22 135 ih22 x1 x2 x3 M) := by
  unfold mX7_refused_b22
  exact (Fr.k (Fr.i (Fr.ok hM) (Fr.k (Fr.m (fX7_reasonOf hM) (fun M13 r12 hM13 => (Fr.i (fX7_refused_b61 hih22 hM13) (fX7_refused_b61 hih22 hM13)))))))
theorem fX7_refused_l22_n  : ∀ (n : Nat) (v0 : Int32) (v1 : Int32) (v2 : Int32) (v3 : Mem), KS SB2 M0 v3 → Fr SB2 M0 (mX7_refused_l22 135 n v0 v1 v2 v3) := by
  intro n
  induction n with
  | zero => intro v0 v1 v2 v3 h; exact Fr.n
  | succ n IH => intro v0 v1 v2 v3 h; exact fX7_refused_b22  IH h
theorem fX7_refused_l22  {v0 : Int32} {v1 : Int32} {v2 : Int32} {v3 : Mem} {n : Nat} (h : KS SB2 M0 v3) : Fr SB2 M0 (mX7_refused_l22 135 n v0 v1 v2 v3) := fX7_refused_l22_n   n v0 v1 v2 v3 h
theorem fX7_refused {x1 : Int32} {M : Mem} (hM : KS SB2 M0 M) : Fr SB2 M0 (mX7_refused 135 x1 M) := by
  unfold mX7_refused
  exact (Fr.c (fun r2 => (Fr.m (fX7_good hM) (fun M6 r5 hM6 => (Fr.i (Fr.ok hM6) (fX7_refused_l22 hM6))))))
theorem fX7_possible_b49 {ih9 : Int32 → Int32 → Mem → Option (Mem × Int32)} {x2 : Int32} {y0 : Int32} {y1 : Int32} {M : Mem} (hih9 : ∀ (v0 : Int32) (v1 : Int32) (v2 : Mem), KS SB2 M0 v2 → Fr SB2 M0 (ih9 v0 v1 v2)) (hM : KS SB2 M0 M) : Fr SB2 M0 (mX7_possible_b49 135 ih9 x2 y0 y1 M) := by
  unfold mX7_possible_b49
  exact (Fr.b (fun x1_50 => (Fr.b (fun x2_51 => (hih9 _ _ _ hM)))))
theorem fX7_possible_b9 {ih9 : Int32 → Int32 → Mem → Option (Mem × Int32)} {x1 : Int32} {x2 : Int32} {M : Mem} (hih9 : ∀ (v0 : Int32) (v1 : Int32) (v2 : Mem), KS SB2 M0 v2 → Fr SB2 M0 (ih9 v0 v1 v2)) (hM : KS SB2 M0 M) : Fr SB2 M0 (mX7_possible_b9 135 ih9 x1 x2 M) := by
  unfold mX7_possible_b9
  exact (Fr.k (Fr.i (Fr.ok hM) (Fr.k (Fr.m (fX7_reasonOf hM) (fun M8 r7 hM8 => (Fr.i (fX7_possible_b49 hih9 hM8) (fX7_possible_b49 hih9 hM8)))))))
theorem fX7_possible_l9_n  : ∀ (n : Nat) (v0 : Int32) (v1 : Int32) (v2 : Mem), KS SB2 M0 v2 → Fr SB2 M0 (mX7_possible_l9 135 n v0 v1 v2) := by
  intro n
  induction n with
  | zero => intro v0 v1 v2 h; exact Fr.n
  | succ n IH => intro v0 v1 v2 h; exact fX7_possible_b9  IH h
theorem fX7_possible_l9  {v0 : Int32} {v1 : Int32} {v2 : Mem} {n : Nat} (h : KS SB2 M0 v2) : Fr SB2 M0 (mX7_possible_l9 135 n v0 v1 v2) := fX7_possible_l9_n   n v0 v1 v2 h
theorem fX7_possible {M : Mem} (hM : KS SB2 M0 M) : Fr SB2 M0 (mX7_possible 135 M) := by
  unfold mX7_possible
  exact (Fr.bw (by decide) hM (fun M1 hM1 => (fX7_possible_l9 hM1)))
theorem fX7_stuck_b71 {ih9 : Int32 → Int32 → Mem → Option (Mem × Int32)} {x2 : Int32} {y0 : Int32} {y1 : Int32} {M : Mem} (hih9 : ∀ (v0 : Int32) (v1 : Int32) (v2 : Mem), KS SB2 M0 v2 → Fr SB2 M0 (ih9 v0 v1 v2)) (hM : KS SB2 M0 M) : Fr SB2 M0 (mX7_stuck_b71 135 ih9 x2 y0 y1 M) := by
  unfold mX7_stuck_b71
  exact (Fr.b (fun x1_72 => (Fr.b (fun x2_73 => (hih9 _ _ _ hM)))))
theorem fX7_stuck_b70 {ih9 : Int32 → Int32 → Mem → Option (Mem × Int32)} {x2 : Int32} {y0 : Int32} {M : Mem} (hih9 : ∀ (v0 : Int32) (v1 : Int32) (v2 : Mem), KS SB2 M0 v2 → Fr SB2 M0 (ih9 v0 v1 v2)) (hM : KS SB2 M0 M) : Fr SB2 M0 (mX7_stuck_b70 135 ih9 x2 y0 M) := by
  unfold mX7_stuck_b70
  exact (fX7_stuck_b71 hih9 hM)
theorem fX7_stuck_b9 {ih9 : Int32 → Int32 → Mem → Option (Mem × Int32)} {x1 : Int32} {x2 : Int32} {M : Mem} (hih9 : ∀ (v0 : Int32) (v1 : Int32) (v2 : Mem), KS SB2 M0 v2 → Fr SB2 M0 (ih9 v0 v1 v2)) (hM : KS SB2 M0 M) : Fr SB2 M0 (mX7_stuck_b9 135 ih9 x1 x2 M) := by
  unfold mX7_stuck_b9
  exact (Fr.k (Fr.i (Fr.ok hM) (Fr.k (Fr.c (fun r7 => (Fr.i (Fr.k (Fr.m (fX7_reasonOf hM) (fun M15 r14 hM15 => (Fr.i (fX7_stuck_b70 hih9 hM15) (Fr.k (Fr.m (fX7_reasonOf hM15) (fun M20 r19 hM20 => (Fr.i (fX7_stuck_b70 hih9 hM20) (fX7_stuck_b71 hih9 hM20))))))))) (fX7_stuck_b70 hih9 hM)))))))
theorem fX7_stuck_l9_n  : ∀ (n : Nat) (v0 : Int32) (v1 : Int32) (v2 : Mem), KS SB2 M0 v2 → Fr SB2 M0 (mX7_stuck_l9 135 n v0 v1 v2) := by
  intro n
  induction n with
  | zero => intro v0 v1 v2 h; exact Fr.n
  | succ n IH => intro v0 v1 v2 h; exact fX7_stuck_b9  IH h
theorem fX7_stuck_l9  {v0 : Int32} {v1 : Int32} {v2 : Mem} {n : Nat} (h : KS SB2 M0 v2) : Fr SB2 M0 (mX7_stuck_l9 135 n v0 v1 v2) := fX7_stuck_l9_n   n v0 v1 v2 h
theorem fX7_stuck {M : Mem} (hM : KS SB2 M0 M) : Fr SB2 M0 (mX7_stuck 135 M) := by
  unfold mX7_stuck
  exact (Fr.bw (by decide) hM (fun M1 hM1 => (fX7_stuck_l9 hM1)))
theorem fX7_costNow {x1 : Int32} {x2 : Int32} {M : Mem} (hM : KS SB2 M0 M) : Fr SB2 M0 (mX7_costNow 135 x1 x2 M) := by
  unfold mX7_costNow
  exact (Fr.k (Fr.i (Fr.ok hM) (Fr.k (Fr.b (fun x3_21 => (Fr.c (fun r6 => (Fr.c (fun r9 => (Fr.c (fun r12 => (Fr.k (Fr.m (fX7_gaugeOf hM) (fun M17 r16 hM17 => (Fr.c (fun r19 => (Fr.ok hM17)))))))))))))))))
theorem fX7_costOf {x1 : Int32} {x2 : Int32} {M : Mem} (hM : KS SB2 M0 M) : Fr SB2 M0 (mX7_costOf 135 x1 x2 M) := by
  unfold mX7_costOf
  exact (Fr.c (fun r2 => (Fr.c (fun r5 => (Fr.m (fX7_good_ hM) (fun M9 r8 hM9 => (Fr.i (Fr.ok hM9) (Fr.m (fX7_costNow hM9) (fun M13 r12 hM13 => (Fr.ok hM13))))))))))
theorem fX7_layOrders_b117 {ih5 : Int32 → Mem → Option (Mem × Unit)} {x1 : Int32} {M : Mem} (hih5 : ∀ (v0 : Int32) (v1 : Mem), KS SB2 M0 v1 → Fr SB2 M0 (ih5 v0 v1)) (hM : KS SB2 M0 M) : Fr SB2 M0 (mX7_layOrders_b117 135 ih5 x1 M) := by
  unfold mX7_layOrders_b117
  exact (Fr.b (fun x1_117 => (hih5 _ _ hM)))
theorem fX7_layOrders_b109 {ih5 : Int32 → Mem → Option (Mem × Unit)} {ih30 : Int32 → Int32 → Mem → Option (Mem × Unit)} {x1 : Int32} {x2 : Int32} {y1 : Int32} {y2 : Int64} {y3 : Int64} {M : Mem} (hih5 : ∀ (v0 : Int32) (v1 : Mem), KS SB2 M0 v1 → Fr SB2 M0 (ih5 v0 v1)) (hih30 : ∀ (v0 : Int32) (v1 : Int32) (v2 : Mem), KS SB2 M0 v2 → Fr SB2 M0 (ih30 v0 v1 v2)) (hM : KS SB2 M0 M) : Fr SB2 M0 (mX7_layOrders_b109 135 ih5 ih30 x1 x2 y1 y2 y3 M) := by
  unfold mX7_layOrders_b109
  exact (Fr.k (Fr.bl hM (fun M30 hM30 => (Fr.b (fun x2_111 => (hih30 _ _ _ hM30))))))
theorem fX7_layOrders_b69 {ih5 : Int32 → Mem → Option (Mem × Unit)} {ih30 : Int32 → Int32 → Mem → Option (Mem × Unit)} {x1 : Int32} {x2 : Int32} {y0 : Int32} {M : Mem} (hih5 : ∀ (v0 : Int32) (v1 : Mem), KS SB2 M0 v1 → Fr SB2 M0 (ih5 v0 v1)) (hih30 : ∀ (v0 : Int32) (v1 : Int32) (v2 : Mem), KS SB2 M0 v2 → Fr SB2 M0 (ih30 v0 v1 v2)) (hM : KS SB2 M0 M) : Fr SB2 M0 (mX7_layOrders_b69 135 ih5 ih30 x1 x2 y0 M) := by
  unfold mX7_layOrders_b69
  exact (Fr.k (Fr.bw ⟨by decide, fun q => absurd q.1 (by decide)⟩ hM (fun M25 hM25 => (Fr.k (Fr.i (fX7_layOrders_b109 hih5 hih30 hM25) (Fr.k (fX7_layOrders_b109 hih5 hih30 hM25)))))))
theorem fX7_layOrders_b30 {ih5 : Int32 → Mem → Option (Mem × Unit)} {ih30 : Int32 → Int32 → Mem → Option (Mem × Unit)} {x1 : Int32} {x2 : Int32} {M : Mem} (hih5 : ∀ (v0 : Int32) (v1 : Mem), KS SB2 M0 v1 → Fr SB2 M0 (ih5 v0 v1)) (hih30 : ∀ (v0 : Int32) (v1 : Int32) (v2 : Mem), KS SB2 M0 v2 → Fr SB2 M0 (ih30 v0 v1 v2)) (hM : KS SB2 M0 M) : Fr SB2 M0 (mX7_layOrders_b30 135 ih5 ih30 x1 x2 M) := by
  unfold mX7_layOrders_b30
  exact (Fr.k (Fr.i (fX7_layOrders_b117 hih5 hM) (Fr.c (fun r16 => (Fr.i (fX7_layOrders_b117 hih5 hM) (Fr.m (fX7_reasonOf hM) (fun M21 r20 hM21 => (Fr.i (fX7_layOrders_b69 hih5 hih30 hM21) (fX7_layOrders_b69 hih5 hih30 hM21)))))))))
theorem fX7_layOrders_l30_n {ih5 : Int32 → Mem → Option (Mem × Unit)} (hih5 : ∀ (u0 : Int32) (u1 : Mem), KS SB2 M0 u1 → Fr SB2 M0 (ih5 u0 u1)) : ∀ (n : Nat) (v0 : Int32) (v1 : Int32) (v2 : Mem), KS SB2 M0 v2 → Fr SB2 M0 (mX7_layOrders_l30 135 ih5 n v0 v1 v2) := by
  intro n
  induction n with
  | zero => intro v0 v1 v2 h; exact Fr.n
  | succ n IH => intro v0 v1 v2 h; exact fX7_layOrders_b30  hih5 IH h
theorem fX7_layOrders_l30 {ih5 : Int32 → Mem → Option (Mem × Unit)} {v0 : Int32} {v1 : Int32} {v2 : Mem} (hih5 : ∀ (u0 : Int32) (u1 : Mem), KS SB2 M0 u1 → Fr SB2 M0 (ih5 u0 u1)) {n : Nat} (h : KS SB2 M0 v2) : Fr SB2 M0 (mX7_layOrders_l30 135 ih5 n v0 v1 v2) := fX7_layOrders_l30_n  hih5 n v0 v1 v2 h
theorem fX7_layOrders_b27 {ih5 : Int32 → Mem → Option (Mem × Unit)} {x1 : Int32} {y1 : Int32} {y2 : Int64} {M : Mem} (hih5 : ∀ (v0 : Int32) (v1 : Mem), KS SB2 M0 v1 → Fr SB2 M0 (ih5 v0 v1)) (hM : KS SB2 M0 M) : Fr SB2 M0 (mX7_layOrders_b27 135 ih5 x1 y1 y2 M) := by
  unfold mX7_layOrders_b27
  exact (Fr.k (Fr.bl hM (fun M11 hM11 => (fX7_layOrders_l30 hih5 hM11))))
theorem fX7_layOrders_b5 {ih5 : Int32 → Mem → Option (Mem × Unit)} {x1 : Int32} {M : Mem} (hih5 : ∀ (v0 : Int32) (v1 : Mem), KS SB2 M0 v1 → Fr SB2 M0 (ih5 v0 v1)) (hM : KS SB2 M0 M) : Fr SB2 M0 (mX7_layOrders_b5 135 ih5 x1 M) := by
  unfold mX7_layOrders_b5
  exact (Fr.i (Fr.ok hM) (Fr.c (fun r6 => (Fr.i (fX7_layOrders_b27 hih5 hM) (fX7_layOrders_b27 hih5 hM)))))
theorem fX7_layOrders_l5_n  : ∀ (n : Nat) (v0 : Int32) (v1 : Mem), KS SB2 M0 v1 → Fr SB2 M0 (mX7_layOrders_l5 135 n v0 v1) := by
  intro n
  induction n with
  | zero => intro v0 v1 h; exact Fr.n
  | succ n IH => intro v0 v1 h; exact fX7_layOrders_b5  IH h
theorem fX7_layOrders_l5  {v0 : Int32} {v1 : Mem} {n : Nat} (h : KS SB2 M0 v1) : Fr SB2 M0 (mX7_layOrders_l5 135 n v0 v1) := fX7_layOrders_l5_n   n v0 v1 h
theorem fX7_layOrders {M : Mem} (hM : KS SB2 M0 M) : Fr SB2 M0 (mX7_layOrders 135 M) := by
  unfold mX7_layOrders
  exact (Fr.c (fun r2 => (fX7_layOrders_l5 hM)))
theorem fX7_layCost_b165 {ih36 : Int32 → Int32 → Int32 → Int32 → Int32 → Mem → Option (Mem × Unit)} {x1 : Int32} {x2 : Int32} {x3 : Int32} {x4 : Int32} {x5 : Int32} {M : Mem} (hih36 : ∀ (v0 : Int32) (v1 : Int32) (v2 : Int32) (v3 : Int32) (v4 : Int32) (v5 : Mem), KS SB2 M0 v5 → Fr SB2 M0 (ih36 v0 v1 v2 v3 v4 v5)) (hM : KS SB2 M0 M) : Fr SB2 M0 (mX7_layCost_b165 135 ih36 x1 x2 x3 x4 x5 M) := by
  unfold mX7_layCost_b165
  exact (Fr.b (fun x5_165 => (hih36 _ _ _ _ _ _ hM)))
theorem fX7_layCost_b117 {ih36 : Int32 → Int32 → Int32 → Int32 → Int32 → Mem → Option (Mem × Unit)} {x1 : Int32} {x2 : Int32} {x3 : Int32} {x4 : Int32} {x5 : Int32} {x6 : Int32} {y0 : Int32} {M : Mem} (hih36 : ∀ (v0 : Int32) (v1 : Int32) (v2 : Int32) (v3 : Int32) (v4 : Int32) (v5 : Mem), KS SB2 M0 v5 → Fr SB2 M0 (ih36 v0 v1 v2 v3 v4 v5)) (hM : KS SB2 M0 M) : Fr SB2 M0 (mX7_layCost_b117 135 ih36 x1 x2 x3 x4 x5 x6 y0 M) := by
  unfold mX7_layCost_b117
  exact (Fr.b (fun x8_131 => (Fr.k (Fr.b (fun x3_147 => (Fr.k (Fr.b (fun x4_163 => (fX7_layCost_b165 hih36 hM)))))))))
theorem fX7_layCost_b36 {ih36 : Int32 → Int32 → Int32 → Int32 → Int32 → Mem → Option (Mem × Unit)} {x1 : Int32} {x2 : Int32} {x3 : Int32} {x4 : Int32} {x5 : Int32} {M : Mem} (hih36 : ∀ (v0 : Int32) (v1 : Int32) (v2 : Int32) (v3 : Int32) (v4 : Int32) (v5 : Mem), KS SB2 M0 v5 → Fr SB2 M0 (ih36 v0 v1 v2 v3 v4 v5)) (hM : KS SB2 M0 M) : Fr SB2 M0 (mX7_layCost_b36 135 ih36 x1 x2 x3 x4 x5 M) := by
  unfold mX7_layCost_b36
  exact (Fr.k (Fr.i (Fr.k (Fr.bw ⟨by decide, fun q => absurd q.1 (by decide)⟩ hM (fun M13 hM13 => (Fr.k (Fr.bw ⟨by decide, fun q => absurd q.1 (by decide)⟩ hM13 (fun M16 hM16 => (Fr.ok hM16))))))) (Fr.k (Fr.i (fX7_layCost_b165 hih36 hM) (Fr.b (fun x6_71 => (Fr.i (fX7_layCost_b117 hih36 hM) (Fr.c (fun r22 => (Fr.k (Fr.c (fun r26 => (fX7_layCost_b117 hih36 hM)))))))))))))
theorem fX7_layCost_l36_n  : ∀ (n : Nat) (v0 : Int32) (v1 : Int32) (v2 : Int32) (v3 : Int32) (v4 : Int32) (v5 : Mem), KS SB2 M0 v5 → Fr SB2 M0 (mX7_layCost_l36 135 n v0 v1 v2 v3 v4 v5) := by
  intro n
  induction n with
  | zero => intro v0 v1 v2 v3 v4 v5 h; exact Fr.n
  | succ n IH => intro v0 v1 v2 v3 v4 v5 h; exact fX7_layCost_b36  IH h
theorem fX7_layCost_l36  {v0 : Int32} {v1 : Int32} {v2 : Int32} {v3 : Int32} {v4 : Int32} {v5 : Mem} {n : Nat} (h : KS SB2 M0 v5) : Fr SB2 M0 (mX7_layCost_l36 135 n v0 v1 v2 v3 v4 v5) := fX7_layCost_l36_n   n v0 v1 v2 v3 v4 v5 h
theorem fX7_layCost_b31 {x1 : Int32} {x2 : Int32} {x3 : Int32} {y0 : Int32} {M : Mem} (hM : KS SB2 M0 M) : Fr SB2 M0 (mX7_layCost_b31 135 x1 x2 x3 y0 M) := by
  unfold mX7_layCost_b31
  exact (fX7_layCost_l36 hM)
theorem fX7_layCost_b15 {x1 : Int32} {x2 : Int32} {y0 : Int32} {M : Mem} (hM : KS SB2 M0 M) : Fr SB2 M0 (mX7_layCost_b15 135 x1 x2 y0 M) := by
  unfold mX7_layCost_b15
  exact (Fr.c (fun r6 => (Fr.i (fX7_layCost_b31 hM) (fX7_layCost_b31 hM))))
theorem fX7_layCost {x1 : Int32} {x2 : Int32} {M : Mem} (hM : KS SB2 M0 M) : Fr SB2 M0 (mX7_layCost 135 x1 x2 M) := by
  unfold mX7_layCost
  exact (Fr.c (fun r2 => (Fr.i (fX7_layCost_b15 hM) (fX7_layCost_b15 hM))))
theorem fX7_layCosts_b127 {ih67 : Int32 → Mem → Option (Mem × Unit)} {x1 : Int32} {M : Mem} (hih67 : ∀ (v0 : Int32) (v1 : Mem), KS SB2 M0 v1 → Fr SB2 M0 (ih67 v0 v1)) (hM : KS SB2 M0 M) : Fr SB2 M0 (mX7_layCosts_b127 135 ih67 x1 M) := by
  unfold mX7_layCosts_b127
  exact (Fr.b (fun x1_127 => (hih67 _ _ hM)))
theorem fX7_layCosts_b121 {ih67 : Int32 → Mem → Option (Mem × Unit)} {ih73 : Int32 → Int32 → Mem → Option (Mem × Unit)} {x1 : Int32} {x2 : Int32} {M : Mem} (hih67 : ∀ (v0 : Int32) (v1 : Mem), KS SB2 M0 v1 → Fr SB2 M0 (ih67 v0 v1)) (hih73 : ∀ (v0 : Int32) (v1 : Int32) (v2 : Mem), KS SB2 M0 v2 → Fr SB2 M0 (ih73 v0 v1 v2)) (hM : KS SB2 M0 M) : Fr SB2 M0 (mX7_layCosts_b121 135 ih67 ih73 x1 x2 M) := by
  unfold mX7_layCosts_b121
  exact (Fr.b (fun x2_121 => (hih73 _ _ _ hM)))
theorem fX7_layCosts_b115 {ih67 : Int32 → Mem → Option (Mem × Unit)} {ih73 : Int32 → Int32 → Mem → Option (Mem × Unit)} {x1 : Int32} {x2 : Int32} {M : Mem} (hih67 : ∀ (v0 : Int32) (v1 : Mem), KS SB2 M0 v1 → Fr SB2 M0 (ih67 v0 v1)) (hih73 : ∀ (v0 : Int32) (v1 : Int32) (v2 : Mem), KS SB2 M0 v2 → Fr SB2 M0 (ih73 v0 v1 v2)) (hM : KS SB2 M0 M) : Fr SB2 M0 (mX7_layCosts_b115 135 ih67 ih73 x1 x2 M) := by
  unfold mX7_layCosts_b115
  exact (Fr.m (fX7_layCost hM) (fun M21 _ hM21 => (fX7_layCosts_b121 hih67 hih73 hM21)))
theorem fX7_layCosts_b73 {ih67 : Int32 → Mem → Option (Mem × Unit)} {ih73 : Int32 → Int32 → Mem → Option (Mem × Unit)} {x1 : Int32} {x2 : Int32} {M : Mem} (hih67 : ∀ (v0 : Int32) (v1 : Mem), KS SB2 M0 v1 → Fr SB2 M0 (ih67 v0 v1)) (hih73 : ∀ (v0 : Int32) (v1 : Int32) (v2 : Mem), KS SB2 M0 v2 → Fr SB2 M0 (ih73 v0 v1 v2)) (hM : KS SB2 M0 M) : Fr SB2 M0 (mX7_layCosts_b73 135 ih67 ih73 x1 x2 M) := by
  unfold mX7_layCosts_b73
  exact (Fr.i (fX7_layCosts_b127 hih67 hM) (Fr.c (fun r15 => (Fr.i (fX7_layCosts_b127 hih67 hM) (Fr.i (fX7_layCosts_b115 hih67 hih73 hM) (Fr.k (Fr.i (fX7_layCosts_b121 hih67 hih73 hM) (Fr.c (fun r26 => (Fr.i (fX7_layCosts_b121 hih67 hih73 hM) (fX7_layCosts_b115 hih67 hih73 hM)))))))))))
theorem fX7_layCosts_l73_n {ih67 : Int32 → Mem → Option (Mem × Unit)} (hih67 : ∀ (u0 : Int32) (u1 : Mem), KS SB2 M0 u1 → Fr SB2 M0 (ih67 u0 u1)) : ∀ (n : Nat) (v0 : Int32) (v1 : Int32) (v2 : Mem), KS SB2 M0 v2 → Fr SB2 M0 (mX7_layCosts_l73 135 ih67 n v0 v1 v2) := by
  intro n
  induction n with
  | zero => intro v0 v1 v2 h; exact Fr.n
  | succ n IH => intro v0 v1 v2 h; exact fX7_layCosts_b73  hih67 IH h
theorem fX7_layCosts_l73 {ih67 : Int32 → Mem → Option (Mem × Unit)} {v0 : Int32} {v1 : Int32} {v2 : Mem} (hih67 : ∀ (u0 : Int32) (u1 : Mem), KS SB2 M0 u1 → Fr SB2 M0 (ih67 u0 u1)) {n : Nat} (h : KS SB2 M0 v2) : Fr SB2 M0 (mX7_layCosts_l73 135 ih67 n v0 v1 v2) := fX7_layCosts_l73_n  hih67 n v0 v1 v2 h
theorem fX7_layCosts_b67 {ih67 : Int32 → Mem → Option (Mem × Unit)} {x1 : Int32} {M : Mem} (hih67 : ∀ (v0 : Int32) (v1 : Mem), KS SB2 M0 v1 → Fr SB2 M0 (ih67 v0 v1)) (hM : KS SB2 M0 M) : Fr SB2 M0 (mX7_layCosts_b67 135 ih67 x1 M) := by
  unfold mX7_layCosts_b67
  exact (Fr.i (Fr.ok hM) (fX7_layCosts_l73 hih67 hM))
theorem fX7_layCosts_l67_n  : ∀ (n : Nat) (v0 : Int32) (v1 : Mem), KS SB2 M0 v1 → Fr SB2 M0 (mX7_layCosts_l67 135 n v0 v1) := by
  intro n
  induction n with
  | zero => intro v0 v1 h; exact Fr.n
  | succ n IH => intro v0 v1 h; exact fX7_layCosts_b67  IH h
theorem fX7_layCosts_l67  {v0 : Int32} {v1 : Mem} {n : Nat} (h : KS SB2 M0 v1) : Fr SB2 M0 (mX7_layCosts_l67 135 n v0 v1) := fX7_layCosts_l67_n   n v0 v1 h
theorem fX7_layCosts_b16 {ih6 : Int32 → Mem → Option (Mem × Unit)} {ih16 : Int32 → Int32 → Mem → Option (Mem × Unit)} {x1 : Int32} {x2 : Int32} {M : Mem} (hih6 : ∀ (v0 : Int32) (v1 : Mem), KS SB2 M0 v1 → Fr SB2 M0 (ih6 v0 v1)) (hih16 : ∀ (v0 : Int32) (v1 : Int32) (v2 : Mem), KS SB2 M0 v2 → Fr SB2 M0 (ih16 v0 v1 v2)) (hM : KS SB2 M0 M) : Fr SB2 M0 (mX7_layCosts_b16 135 ih6 ih16 x1 x2 M) := by
  unfold mX7_layCosts_b16
  exact (Fr.k (Fr.i (Fr.b (fun x1_56 => (hih6 _ _ hM))) (Fr.m (fX7_gaugeOf hM) (fun M34 r33 hM34 => (Fr.k (Fr.bw ⟨by decide, fun q => absurd q.1 (by decide)⟩ hM34 (fun M37 hM37 => (Fr.b (fun x2_50 => (hih16 _ _ _ hM37))))))))))
theorem fX7_layCosts_l16_n {ih6 : Int32 → Mem → Option (Mem × Unit)} (hih6 : ∀ (u0 : Int32) (u1 : Mem), KS SB2 M0 u1 → Fr SB2 M0 (ih6 u0 u1)) : ∀ (n : Nat) (v0 : Int32) (v1 : Int32) (v2 : Mem), KS SB2 M0 v2 → Fr SB2 M0 (mX7_layCosts_l16 135 ih6 n v0 v1 v2) := by
  intro n
  induction n with
  | zero => intro v0 v1 v2 h; exact Fr.n
  | succ n IH => intro v0 v1 v2 h; exact fX7_layCosts_b16  hih6 IH h
theorem fX7_layCosts_l16 {ih6 : Int32 → Mem → Option (Mem × Unit)} {v0 : Int32} {v1 : Int32} {v2 : Mem} (hih6 : ∀ (u0 : Int32) (u1 : Mem), KS SB2 M0 u1 → Fr SB2 M0 (ih6 u0 u1)) {n : Nat} (h : KS SB2 M0 v2) : Fr SB2 M0 (mX7_layCosts_l16 135 ih6 n v0 v1 v2) := fX7_layCosts_l16_n  hih6 n v0 v1 v2 h
theorem fX7_layCosts_b6 {ih6 : Int32 → Mem → Option (Mem × Unit)} {x1 : Int32} {M : Mem} (hih6 : ∀ (v0 : Int32) (v1 : Mem), KS SB2 M0 v1 → Fr SB2 M0 (ih6 v0 v1)) (hM : KS SB2 M0 M) : Fr SB2 M0 (mX7_layCosts_b6 135 ih6 x1 M) := by
  unfold mX7_layCosts_b6
  exact (Fr.c (fun r5 => (Fr.i (Fr.c (fun r9 => (fX7_layCosts_l67 hM))) (fX7_layCosts_l16 hih6 hM))))
theorem fX7_layCosts_l6_n  : ∀ (n : Nat) (v0 : Int32) (v1 : Mem), KS SB2 M0 v1 → Fr SB2 M0 (mX7_layCosts_l6 135 n v0 v1) := by
  intro n
  induction n with
  | zero => intro v0 v1 h; exact Fr.n
  | succ n IH => intro v0 v1 h; exact fX7_layCosts_b6  IH h
theorem fX7_layCosts_l6  {v0 : Int32} {v1 : Mem} {n : Nat} (h : KS SB2 M0 v1) : Fr SB2 M0 (mX7_layCosts_l6 135 n v0 v1) := fX7_layCosts_l6_n   n v0 v1 h
theorem fX7_layCosts {M : Mem} (hM : KS SB2 M0 M) : Fr SB2 M0 (mX7_layCosts 135 M) := by
  unfold mX7_layCosts
  exact (Fr.m (fX7_layOrders hM) (fun M3 _ hM3 => (fX7_layCosts_l6 hM3)))
theorem fX7_orders {M : Mem} (hM : KS SB2 M0 M) : Fr SB2 M0 (mX7_orders 135 M) := by
  unfold mX7_orders
  exact (Fr.bw (by decide) hM (fun M1 hM1 => (Fr.m (fX7_layOrders hM1) (fun M5 _ hM5 => (Fr.k (Fr.k (Fr.ok hM5)))))))
theorem fX7_leastNow {M : Mem} (hM : KS SB2 M0 M) : Fr SB2 M0 (mX7_leastNow 135 M) := by
  unfold mX7_leastNow
  exact (Fr.m (fX7_layCosts hM) (fun M3 _ hM3 => (Fr.c (fun r5 => (Fr.i (Fr.ok hM3) (Fr.k (Fr.c (fun r10 => (Fr.k (Fr.ok hM3))))))))))
theorem fX7_leastCost {M : Mem} (hM : KS SB2 M0 M) : Fr SB2 M0 (mX7_leastCost 135 M) := by
  unfold mX7_leastCost
  exact (Fr.bw (by decide) hM (fun M1 hM1 => (Fr.m (fX7_leastNow hM1) (fun M5 r4 hM5 => (Fr.ok hM5)))))
theorem fX7_plannedSteps {M : Mem} (hM : KS SB2 M0 M) : Fr SB2 M0 (mX7_plannedSteps 135 M) := by
  unfold mX7_plannedSteps
  exact (Fr.bw (by decide) hM (fun M1 hM1 => (Fr.m (fX7_layOrders hM1) (fun M5 _ hM5 => (Fr.c (fun r7 => (Fr.i (Fr.ok hM5) (Fr.c (fun r11 => (Fr.ok hM5))))))))))
theorem fX7_planned_b57 {ih57 : Int32 → Int32 → Int32 → Int32 → Mem → Option (Mem × Int32)} {x1 : Int32} {x2 : Int32} {x3 : Int32} {x4 : Int32} {M : Mem} (hih57 : ∀ (v0 : Int32) (v1 : Int32) (v2 : Int32) (v3 : Int32) (v4 : Mem), KS SB2 M0 v4 → Fr SB2 M0 (ih57 v0 v1 v2 v3 v4)) (hM : KS SB2 M0 M) : Fr SB2 M0 (mX7_planned_b57 135 ih57 x1 x2 x3 x4 M) := by
  unfold mX7_planned_b57
  exact (Fr.i (Fr.ok hM) (Fr.c (fun r19 => (Fr.b (fun x2_77 => (Fr.b (fun x4_78 => (hih57 _ _ _ _ _ hM))))))))
theorem fX7_planned_l57_n  : ∀ (n : Nat) (v0 : Int32) (v1 : Int32) (v2 : Int32) (v3 : Int32) (v4 : Mem), KS SB2 M0 v4 → Fr SB2 M0 (mX7_planned_l57 135 n v0 v1 v2 v3 v4) := by
  intro n
  induction n with
  | zero => intro v0 v1 v2 v3 v4 h; exact Fr.n
  | succ n IH => intro v0 v1 v2 v3 v4 h; exact fX7_planned_b57  IH h
theorem fX7_planned_l57  {v0 : Int32} {v1 : Int32} {v2 : Int32} {v3 : Int32} {v4 : Mem} {n : Nat} (h : KS SB2 M0 v4) : Fr SB2 M0 (mX7_planned_l57 135 n v0 v1 v2 v3 v4) := fX7_planned_l57_n   n v0 v1 v2 v3 v4 h
theorem fX7_planned_b33 {x1 : Int32} {y1 : Int32} {M : Mem} (hM : KS SB2 M0 M) : Fr SB2 M0 (mX7_planned_b33 135 x1 y1 M) := by
  unfold mX7_planned_b33
  exact (Fr.m (fX7_good hM) (fun M10 r9 hM10 => (Fr.i (Fr.ok hM10) (Fr.k (Fr.b (fun x2_48 => (Fr.c (fun r15 => (fX7_planned_l57 hM10)))))))))
theorem fX7_planned_b32 {x1 : Int32} {M : Mem} (hM : KS SB2 M0 M) : Fr SB2 M0 (mX7_planned_b32 135 x1 M) := by
  unfold mX7_planned_b32
  exact (fX7_planned_b33 hM)
theorem fX7_planned {x1 : Int32} {M : Mem} (hM : KS SB2 M0 M) : Fr SB2 M0 (mX7_planned 135 x1 M) := by
  unfold mX7_planned
  exact (Fr.m (fX7_layCosts hM) (fun M3 _ hM3 => (Fr.c (fun r5 => (Fr.i (fX7_planned_b32 hM3) (Fr.c (fun r24 => (Fr.c (fun r27 => (Fr.i (fX7_planned_b32 hM3) (fX7_planned_b33 hM3)))))))))))
theorem fX7_greatestCost {M : Mem} (hM : KS SB2 M0 M) : Fr SB2 M0 (mX7_greatestCost 135 M) := by
  unfold mX7_greatestCost
  exact (Fr.bw (by decide) hM (fun M1 hM1 => (Fr.m (fX7_layCosts hM1) (fun M5 _ hM5 => (Fr.c (fun r7 => (Fr.i (Fr.ok hM5) (Fr.k (Fr.c (fun r12 => (Fr.k (Fr.ok hM5))))))))))))
theorem fX7_ordersWith {x1 : Int32} {x2 : Int32} {M : Mem} (hM : KS SB2 M0 M) : Fr SB2 M0 (mX7_ordersWith 135 x1 x2 M) := by
  unfold mX7_ordersWith
  exact (Fr.c (fun r2 => (Fr.c (fun r5 => (Fr.m (fX7_good_ hM) (fun M9 r8 hM9 => (Fr.i (Fr.ok hM9) (Fr.m (fX7_layOrders hM9) (fun M13 _ hM13 => (Fr.k (Fr.k (Fr.i (Fr.ok hM13) (Fr.k (Fr.k (Fr.ok hM13)))))))))))))))
theorem fX7_layReached_b107 {ih44 : Int32 → Mem → Option (Mem × Unit)} {x1 : Int32} {M : Mem} (hih44 : ∀ (v0 : Int32) (v1 : Mem), KS SB2 M0 v1 → Fr SB2 M0 (ih44 v0 v1)) (hM : KS SB2 M0 M) : Fr SB2 M0 (mX7_layReached_b107 135 ih44 x1 M) := by
  unfold mX7_layReached_b107
  exact (Fr.b (fun x1_107 => (hih44 _ _ hM)))
theorem fX7_layReached_b54 {ih44 : Int32 → Mem → Option (Mem × Unit)} {ih54 : Int32 → Int32 → Mem → Option (Mem × Unit)} {x1 : Int32} {x2 : Int32} {M : Mem} (hih44 : ∀ (v0 : Int32) (v1 : Mem), KS SB2 M0 v1 → Fr SB2 M0 (ih44 v0 v1)) (hih54 : ∀ (v0 : Int32) (v1 : Int32) (v2 : Mem), KS SB2 M0 v2 → Fr SB2 M0 (ih54 v0 v1 v2)) (hM : KS SB2 M0 M) : Fr SB2 M0 (mX7_layReached_b54 135 ih44 ih54 x1 x2 M) := by
  unfold mX7_layReached_b54
  exact (Fr.k (Fr.i (fX7_layReached_b107 hih44 hM) (Fr.k (Fr.i (fX7_layReached_b107 hih44 hM) (Fr.k (Fr.k (Fr.k (Fr.bw ⟨by decide, fun q => absurd q.1 (by decide)⟩ hM (fun M21 hM21 => (Fr.b (fun x2_101 => (hih54 _ _ _ hM21))))))))))))
theorem fX7_layReached_l54_n {ih44 : Int32 → Mem → Option (Mem × Unit)} (hih44 : ∀ (u0 : Int32) (u1 : Mem), KS SB2 M0 u1 → Fr SB2 M0 (ih44 u0 u1)) : ∀ (n : Nat) (v0 : Int32) (v1 : Int32) (v2 : Mem), KS SB2 M0 v2 → Fr SB2 M0 (mX7_layReached_l54 135 ih44 n v0 v1 v2) := by
  intro n
  induction n with
  | zero => intro v0 v1 v2 h; exact Fr.n
  | succ n IH => intro v0 v1 v2 h; exact fX7_layReached_b54  hih44 IH h
theorem fX7_layReached_l54 {ih44 : Int32 → Mem → Option (Mem × Unit)} {v0 : Int32} {v1 : Int32} {v2 : Mem} (hih44 : ∀ (u0 : Int32) (u1 : Mem), KS SB2 M0 u1 → Fr SB2 M0 (ih44 u0 u1)) {n : Nat} (h : KS SB2 M0 v2) : Fr SB2 M0 (mX7_layReached_l54 135 ih44 n v0 v1 v2) := fX7_layReached_l54_n  hih44 n v0 v1 v2 h
theorem fX7_layReached_b44 {ih44 : Int32 → Mem → Option (Mem × Unit)} {x1 : Int32} {M : Mem} (hih44 : ∀ (v0 : Int32) (v1 : Mem), KS SB2 M0 v1 → Fr SB2 M0 (ih44 v0 v1)) (hM : KS SB2 M0 M) : Fr SB2 M0 (mX7_layReached_b44 135 ih44 x1 M) := by
  unfold mX7_layReached_b44
  exact (Fr.c (fun r9 => (Fr.i (Fr.ok hM) (fX7_layReached_l54 hih44 hM))))
theorem fX7_layReached_l44_n  : ∀ (n : Nat) (v0 : Int32) (v1 : Mem), KS SB2 M0 v1 → Fr SB2 M0 (mX7_layReached_l44 135 n v0 v1) := by
  intro n
  induction n with
  | zero => intro v0 v1 h; exact Fr.n
  | succ n IH => intro v0 v1 h; exact fX7_layReached_b44  IH h
theorem fX7_layReached_l44  {v0 : Int32} {v1 : Mem} {n : Nat} (h : KS SB2 M0 v1) : Fr SB2 M0 (mX7_layReached_l44 135 n v0 v1) := fX7_layReached_l44_n   n v0 v1 h
theorem fX7_layReached_b35 {ih6 : Int32 → Mem → Option (Mem × Unit)} {x1 : Int32} {y1 : Int32} {y2 : Int32} {M : Mem} (hih6 : ∀ (v0 : Int32) (v1 : Mem), KS SB2 M0 v1 → Fr SB2 M0 (ih6 v0 v1)) (hM : KS SB2 M0 M) : Fr SB2 M0 (mX7_layReached_b35 135 ih6 x1 y1 y2 M) := by
  unfold mX7_layReached_b35
  exact (Fr.k (Fr.bw ⟨by decide, fun q => absurd q.1 (by decide)⟩ hM (fun M27 hM27 => (Fr.b (fun x1_36 => (hih6 _ _ hM27))))))
theorem fX7_layReached_b6 {ih6 : Int32 → Mem → Option (Mem × Unit)} {x1 : Int32} {M : Mem} (hih6 : ∀ (v0 : Int32) (v1 : Mem), KS SB2 M0 v1 → Fr SB2 M0 (ih6 v0 v1)) (hM : KS SB2 M0 M) : Fr SB2 M0 (mX7_layReached_b6 135 ih6 x1 M) := by
  unfold mX7_layReached_b6
  exact (Fr.c (fun r5 => (Fr.i (fX7_layReached_l44 hM) (Fr.k (Fr.i (fX7_layReached_b35 hih6 hM) (fX7_layReached_b35 hih6 hM))))))
theorem fX7_layReached_l6_n  : ∀ (n : Nat) (v0 : Int32) (v1 : Mem), KS SB2 M0 v1 → Fr SB2 M0 (mX7_layReached_l6 135 n v0 v1) := by
  intro n
  induction n with
  | zero => intro v0 v1 h; exact Fr.n
  | succ n IH => intro v0 v1 h; exact fX7_layReached_b6  IH h
theorem fX7_layReached_l6  {v0 : Int32} {v1 : Mem} {n : Nat} (h : KS SB2 M0 v1) : Fr SB2 M0 (mX7_layReached_l6 135 n v0 v1) := fX7_layReached_l6_n   n v0 v1 h
theorem fX7_layReached {M : Mem} (hM : KS SB2 M0 M) : Fr SB2 M0 (mX7_layReached 135 M) := by
  unfold mX7_layReached
  exact (Fr.m (fX7_layOrders hM) (fun M3 _ hM3 => (fX7_layReached_l6 hM3)))
theorem fX7_lastSteps_b69 {ih13 : Int32 → Int32 → Mem → Option (Mem × Int32)} {x2 : Int32} {y0 : Int32} {y1 : Int32} {M : Mem} (hih13 : ∀ (v0 : Int32) (v1 : Int32) (v2 : Mem), KS SB2 M0 v2 → Fr SB2 M0 (ih13 v0 v1 v2)) (hM : KS SB2 M0 M) : Fr SB2 M0 (mX7_lastSteps_b69 135 ih13 x2 y0 y1 M) := by
  unfold mX7_lastSteps_b69
  exact (Fr.b (fun x1_70 => (Fr.b (fun x2_71 => (hih13 _ _ _ hM)))))
theorem fX7_lastSteps_b68 {ih13 : Int32 → Int32 → Mem → Option (Mem × Int32)} {x2 : Int32} {y0 : Int32} {M : Mem} (hih13 : ∀ (v0 : Int32) (v1 : Int32) (v2 : Mem), KS SB2 M0 v2 → Fr SB2 M0 (ih13 v0 v1 v2)) (hM : KS SB2 M0 M) : Fr SB2 M0 (mX7_lastSteps_b68 135 ih13 x2 y0 M) := by
  unfold mX7_lastSteps_b68
  exact (fX7_lastSteps_b69 hih13 hM)
theorem fX7_lastSteps_b13 {ih13 : Int32 → Int32 → Mem → Option (Mem × Int32)} {x1 : Int32} {x2 : Int32} {M : Mem} (hih13 : ∀ (v0 : Int32) (v1 : Int32) (v2 : Mem), KS SB2 M0 v2 → Fr SB2 M0 (ih13 v0 v1 v2)) (hM : KS SB2 M0 M) : Fr SB2 M0 (mX7_lastSteps_b13 135 ih13 x1 x2 M) := by
  unfold mX7_lastSteps_b13
  exact (Fr.k (Fr.i (Fr.ok hM) (Fr.c (fun r9 => (Fr.b (fun x3_37 => (Fr.k (Fr.i (fX7_lastSteps_b68 hih13 hM) (Fr.k (Fr.i (fX7_lastSteps_b68 hih13 hM) (fX7_lastSteps_b69 hih13 hM)))))))))))
theorem fX7_lastSteps_l13_n  : ∀ (n : Nat) (v0 : Int32) (v1 : Int32) (v2 : Mem), KS SB2 M0 v2 → Fr SB2 M0 (mX7_lastSteps_l13 135 n v0 v1 v2) := by
  intro n
  induction n with
  | zero => intro v0 v1 v2 h; exact Fr.n
  | succ n IH => intro v0 v1 v2 h; exact fX7_lastSteps_b13  IH h
theorem fX7_lastSteps_l13  {v0 : Int32} {v1 : Int32} {v2 : Mem} {n : Nat} (h : KS SB2 M0 v2) : Fr SB2 M0 (mX7_lastSteps_l13 135 n v0 v1 v2) := fX7_lastSteps_l13_n   n v0 v1 v2 h
theorem fX7_lastSteps {M : Mem} (hM : KS SB2 M0 M) : Fr SB2 M0 (mX7_lastSteps 135 M) := by
  unfold mX7_lastSteps
  exact (Fr.bw (by decide) hM (fun M1 hM1 => (Fr.m (fX7_layReached hM1) (fun M5 _ hM5 => (fX7_lastSteps_l13 hM5)))))
theorem fX7_mostBends_b93 {ih13 : Int32 → Int32 → Mem → Option (Mem × Int32)} {x2 : Int32} {y0 : Int32} {M : Mem} (hih13 : ∀ (v0 : Int32) (v1 : Int32) (v2 : Mem), KS SB2 M0 v2 → Fr SB2 M0 (ih13 v0 v1 v2)) (hM : KS SB2 M0 M) : Fr SB2 M0 (mX7_mostBends_b93 135 ih13 x2 y0 M) := by
  unfold mX7_mostBends_b93
  exact (Fr.b (fun x2_94 => (hih13 _ _ _ hM)))
theorem fX7_mostBends_b67 {ih13 : Int32 → Int32 → Mem → Option (Mem × Int32)} {ih26 : Int32 → Int32 → Int32 → Int32 → Mem → Option (Mem × Int32)} {x1 : Int32} {x2 : Int32} {x4 : Int32} {y0 : Int32} {y1 : Int32} {M : Mem} (hih13 : ∀ (v0 : Int32) (v1 : Int32) (v2 : Mem), KS SB2 M0 v2 → Fr SB2 M0 (ih13 v0 v1 v2)) (hih26 : ∀ (v0 : Int32) (v1 : Int32) (v2 : Int32) (v3 : Int32) (v4 : Mem), KS SB2 M0 v4 → Fr SB2 M0 (ih26 v0 v1 v2 v3 v4)) (hM : KS SB2 M0 M) : Fr SB2 M0 (mX7_mostBends_b67 135 ih13 ih26 x1 x2 x4 y0 y1 M) := by
  unfold mX7_mostBends_b67
  exact (Fr.b (fun x3_68 => (Fr.b (fun x4_69 => (hih26 _ _ _ _ _ hM)))))
theorem fX7_mostBends_b66 {ih13 : Int32 → Int32 → Mem → Option (Mem × Int32)} {ih26 : Int32 → Int32 → Int32 → Int32 → Mem → Option (Mem × Int32)} {x1 : Int32} {x2 : Int32} {x4 : Int32} {y0 : Int32} {M : Mem} (hih13 : ∀ (v0 : Int32) (v1 : Int32) (v2 : Mem), KS SB2 M0 v2 → Fr SB2 M0 (ih13 v0 v1 v2)) (hih26 : ∀ (v0 : Int32) (v1 : Int32) (v2 : Int32) (v3 : Int32) (v4 : Mem), KS SB2 M0 v4 → Fr SB2 M0 (ih26 v0 v1 v2 v3 v4)) (hM : KS SB2 M0 M) : Fr SB2 M0 (mX7_mostBends_b66 135 ih13 ih26 x1 x2 x4 y0 M) := by
  unfold mX7_mostBends_b66
  exact (fX7_mostBends_b67 hih13 hih26 hM)
theorem fX7_mostBends_b26 {ih13 : Int32 → Int32 → Mem → Option (Mem × Int32)} {ih26 : Int32 → Int32 → Int32 → Int32 → Mem → Option (Mem × Int32)} {x1 : Int32} {x2 : Int32} {x3 : Int32} {x4 : Int32} {M : Mem} (hih13 : ∀ (v0 : Int32) (v1 : Int32) (v2 : Mem), KS SB2 M0 v2 → Fr SB2 M0 (ih13 v0 v1 v2)) (hih26 : ∀ (v0 : Int32) (v1 : Int32) (v2 : Int32) (v3 : Int32) (v4 : Mem), KS SB2 M0 v4 → Fr SB2 M0 (ih26 v0 v1 v2 v3 v4)) (hM : KS SB2 M0 M) : Fr SB2 M0 (mX7_mostBends_b26 135 ih13 ih26 x1 x2 x3 x4 M) := by
  unfold mX7_mostBends_b26
  exact (Fr.k (Fr.i (Fr.k (Fr.i (fX7_mostBends_b93 hih13 hM) (fX7_mostBends_b93 hih13 hM))) (Fr.c (fun r16 => (Fr.i (fX7_mostBends_b66 hih13 hih26 hM) (Fr.k (Fr.c (fun r23 => (Fr.i (fX7_mostBends_b67 hih13 hih26 hM) (fX7_mostBends_b66 hih13 hih26 hM))))))))))
theorem fX7_mostBends_l26_n {ih13 : Int32 → Int32 → Mem → Option (Mem × Int32)} (hih13 : ∀ (u0 : Int32) (u1 : Int32) (u2 : Mem), KS SB2 M0 u2 → Fr SB2 M0 (ih13 u0 u1 u2)) : ∀ (n : Nat) (v0 : Int32) (v1 : Int32) (v2 : Int32) (v3 : Int32) (v4 : Mem), KS SB2 M0 v4 → Fr SB2 M0 (mX7_mostBends_l26 135 ih13 n v0 v1 v2 v3 v4) := by
  intro n
  induction n with
  | zero => intro v0 v1 v2 v3 v4 h; exact Fr.n
  | succ n IH => intro v0 v1 v2 v3 v4 h; exact fX7_mostBends_b26  hih13 IH h
theorem fX7_mostBends_l26 {ih13 : Int32 → Int32 → Mem → Option (Mem × Int32)} {v0 : Int32} {v1 : Int32} {v2 : Int32} {v3 : Int32} {v4 : Mem} (hih13 : ∀ (u0 : Int32) (u1 : Int32) (u2 : Mem), KS SB2 M0 u2 → Fr SB2 M0 (ih13 u0 u1 u2)) {n : Nat} (h : KS SB2 M0 v4) : Fr SB2 M0 (mX7_mostBends_l26 135 ih13 n v0 v1 v2 v3 v4) := fX7_mostBends_l26_n  hih13 n v0 v1 v2 v3 v4 h
theorem fX7_mostBends_b13 {ih13 : Int32 → Int32 → Mem → Option (Mem × Int32)} {x1 : Int32} {x2 : Int32} {M : Mem} (hih13 : ∀ (v0 : Int32) (v1 : Int32) (v2 : Mem), KS SB2 M0 v2 → Fr SB2 M0 (ih13 v0 v1 v2)) (hM : KS SB2 M0 M) : Fr SB2 M0 (mX7_mostBends_b13 135 ih13 x1 x2 M) := by
  unfold mX7_mostBends_b13
  exact (Fr.c (fun r7 => (Fr.i (Fr.ok hM) (fX7_mostBends_l26 hih13 hM))))
theorem fX7_mostBends_l13_n  : ∀ (n : Nat) (v0 : Int32) (v1 : Int32) (v2 : Mem), KS SB2 M0 v2 → Fr SB2 M0 (mX7_mostBends_l13 135 n v0 v1 v2) := by
  intro n
  induction n with
  | zero => intro v0 v1 v2 h; exact Fr.n
  | succ n IH => intro v0 v1 v2 h; exact fX7_mostBends_b13  IH h
theorem fX7_mostBends_l13  {v0 : Int32} {v1 : Int32} {v2 : Mem} {n : Nat} (h : KS SB2 M0 v2) : Fr SB2 M0 (mX7_mostBends_l13 135 n v0 v1 v2) := fX7_mostBends_l13_n   n v0 v1 v2 h
theorem fX7_mostBends {M : Mem} (hM : KS SB2 M0 M) : Fr SB2 M0 (mX7_mostBends 135 M) := by
  unfold mX7_mostBends
  exact (Fr.bw (by decide) hM (fun M1 hM1 => (Fr.m (fX7_layReached hM1) (fun M5 _ hM5 => (fX7_mostBends_l13 hM5)))))
theorem fX7_greatestBeam_b59 {x1 : Int32} {x2 : Int32} {M : Mem} (hM : KS SB2 M0 M) : Fr SB2 M0 (mX7_greatestBeam_b59 135 x1 x2 M) := by
  unfold mX7_greatestBeam_b59
  exact (Fr.k (Fr.bw ⟨by decide, fun q => absurd q.1 (by decide)⟩ hM (fun M8 hM8 => (Fr.ok hM8))))
theorem fX7_greatestBeam_b52 {ih19 : Int32 → Int32 → Int32 → Mem → Option (Mem × Int32)} {x1 : Int32} {x3 : Int32} {y0 : Int32} {M : Mem} (hih19 : ∀ (v0 : Int32) (v1 : Int32) (v2 : Int32) (v3 : Mem), KS SB2 M0 v3 → Fr SB2 M0 (ih19 v0 v1 v2 v3)) (hM : KS SB2 M0 M) : Fr SB2 M0 (mX7_greatestBeam_b52 135 ih19 x1 x3 y0 M) := by
  unfold mX7_greatestBeam_b52
  exact (Fr.b (fun x3_53 => (hih19 _ _ _ _ hM)))
theorem fX7_greatestBeam_b19 {ih19 : Int32 → Int32 → Int32 → Mem → Option (Mem × Int32)} {x1 : Int32} {x2 : Int32} {x3 : Int32} {M : Mem} (hih19 : ∀ (v0 : Int32) (v1 : Int32) (v2 : Int32) (v3 : Mem), KS SB2 M0 v3 → Fr SB2 M0 (ih19 v0 v1 v2 v3)) (hM : KS SB2 M0 M) : Fr SB2 M0 (mX7_greatestBeam_b19 135 ih19 x1 x2 x3 M) := by
  unfold mX7_greatestBeam_b19
  exact (Fr.i (fX7_greatestBeam_b59 hM) (Fr.i (Fr.k (Fr.bw ⟨by decide, fun q => absurd q.1 (by decide)⟩ hM (fun M12 hM12 => (Fr.m (fX7_layOrders hM12) (fun M15 _ hM15 => (Fr.c (fun r17 => (Fr.i (fX7_greatestBeam_b52 hih19 hM15) (fX7_greatestBeam_b52 hih19 hM15))))))))) (fX7_greatestBeam_b59 hM)))
theorem fX7_greatestBeam_l19_n  : ∀ (n : Nat) (v0 : Int32) (v1 : Int32) (v2 : Int32) (v3 : Mem), KS SB2 M0 v3 → Fr SB2 M0 (mX7_greatestBeam_l19 135 n v0 v1 v2 v3) := by
  intro n
  induction n with
  | zero => intro v0 v1 v2 v3 h; exact Fr.n
  | succ n IH => intro v0 v1 v2 v3 h; exact fX7_greatestBeam_b19  IH h
theorem fX7_greatestBeam_l19  {v0 : Int32} {v1 : Int32} {v2 : Int32} {v3 : Mem} {n : Nat} (h : KS SB2 M0 v3) : Fr SB2 M0 (mX7_greatestBeam_l19 135 n v0 v1 v2 v3) := fX7_greatestBeam_l19_n   n v0 v1 v2 v3 h
theorem fX7_greatestBeam {M : Mem} (hM : KS SB2 M0 M) : Fr SB2 M0 (mX7_greatestBeam 135 M) := by
  unfold mX7_greatestBeam
  exact (Fr.bw (by decide) hM (fun M1 hM1 => (Fr.k (Fr.b (fun x1_12 => (fX7_greatestBeam_l19 hM1))))))
theorem fX7_costIfTurned_b21 {x1 : Int32} {y1 : Int32} {y2 : Int32} {M : Mem} (hM : KS SB2 M0 M) : Fr SB2 M0 (mX7_costIfTurned_b21 135 x1 y1 y2 M) := by
  unfold mX7_costIfTurned_b21
  exact (Fr.m (fX7_good_ hM) (fun M8 r7 hM8 => (Fr.i (Fr.ok hM8) (Fr.k (Fr.k (Fr.bw ⟨by decide, fun q => absurd q.1 (by decide)⟩ hM8 (fun M13 hM13 => (Fr.m (fX7_leastNow hM13) (fun M16 r15 hM16 => (Fr.k (Fr.k (Fr.bw ⟨by decide, fun q => absurd q.1 (by decide)⟩ hM16 (fun M20 hM20 => (Fr.ok hM20))))))))))))))
theorem fX7_costIfTurned {x1 : Int32} {M : Mem} (hM : KS SB2 M0 M) : Fr SB2 M0 (mX7_costIfTurned 135 x1 M) := by
  unfold mX7_costIfTurned
  exact (Fr.c (fun r2 => (Fr.k (Fr.i (fX7_costIfTurned_b21 hM) (fX7_costIfTurned_b21 hM)))))
theorem fX7_foldNow {x1 : Int32} {x2 : Int32} {M : Mem} (hM : KS SB2 M0 M) : Fr SB2 M0 (mX7_foldNow 135 x1 x2 M) := by
  unfold mX7_foldNow
  exact (Fr.m (fX7_costNow hM) (fun M3 r2 hM3 => (Fr.k (Fr.m (fX7_gaugeOf hM3) (fun M7 r6 hM7 => (Fr.m (fX7_remember hM7) (fun M10 _ hM10 => (Fr.k (Fr.b (fun x5_38 => (Fr.k (Fr.bw ⟨by decide, fun q => absurd q.1 (by decide)⟩ hM10 (fun M15 hM15 => (Fr.k (Fr.bw ⟨by decide, fun q => absurd q.1 (by decide)⟩ hM15 (fun M18 hM18 => (Fr.k (Fr.bw ⟨by decide, fun q => absurd q.1 (by decide)⟩ hM18 (fun M21 hM21 => (Fr.k (Fr.bw ⟨by decide, fun q => absurd q.1 (by decide)⟩ hM21 (fun M24 hM24 => (Fr.k (Fr.k (Fr.bw ⟨by decide, fun q => absurd q.1 (by decide)⟩ hM24 (fun M28 hM28 => (Fr.k (Fr.k (Fr.bw ⟨by decide, fun q => absurd q.1 (by decide)⟩ hM28 (fun M32 hM32 => (Fr.ok hM32)))))))))))))))))))))))))))))))
theorem fX7_fold_b46 {x1 : Int32} {x2 : Int32} {y1 : Int32} {y2 : Int32} {y3 : Int32} {M : Mem} (hM : KS SB2 M0 M) : Fr SB2 M0 (mX7_fold_b46 135 x1 x2 y1 y2 y3 M) := by
  unfold mX7_fold_b46
  exact (Fr.m (fX7_good__ hM) (fun M10 r9 hM10 => (Fr.i (Fr.ok hM10) (Fr.m (fX7_foldNow hM10) (fun M14 r13 hM14 => (Fr.ok hM14))))))
theorem fX7_fold_b45 {x1 : Int32} {x2 : Int32} {y1 : Int32} {y2 : Int32} {M : Mem} (hM : KS SB2 M0 M) : Fr SB2 M0 (mX7_fold_b45 135 x1 x2 y1 y2 M) := by
  unfold mX7_fold_b45
  exact (fX7_fold_b46 hM)
theorem fX7_fold {x1 : Int32} {x2 : Int32} {M : Mem} (hM : KS SB2 M0 M) : Fr SB2 M0 (mX7_fold 135 x1 x2 M) := by
  unfold mX7_fold
  exact (Fr.c (fun r2 => (Fr.c (fun r5 => (Fr.i (fX7_fold_b45 hM) (Fr.i (fX7_fold_b45 hM) (Fr.k (Fr.m (fX7_reasonOf hM) (fun M19 r18 hM19 => (Fr.i (fX7_fold_b46 hM19) (fX7_fold_b45 hM19)))))))))))
theorem fX7_foldNext_b24 {y1 : Int32} {M : Mem} (hM : KS SB2 M0 M) : Fr SB2 M0 (mX7_foldNext_b24 135 y1 M) := by
  unfold mX7_foldNext_b24
  exact (Fr.m (fX7_good hM) (fun M10 r9 hM10 => (Fr.i (Fr.ok hM10) (Fr.k (Fr.c (fun r14 => (Fr.c (fun r17 => (Fr.m (fX7_foldNow hM10) (fun M21 r20 hM21 => (Fr.ok hM21)))))))))))
theorem fX7_foldNext_b23 {M : Mem} (hM : KS SB2 M0 M) : Fr SB2 M0 (mX7_foldNext_b23 135 M) := by
  unfold mX7_foldNext_b23
  exact (fX7_foldNext_b24 hM)
theorem fX7_foldNext {M : Mem} (hM : KS SB2 M0 M) : Fr SB2 M0 (mX7_foldNext 135 M) := by
  unfold mX7_foldNext
  exact (Fr.m (fX7_layCosts hM) (fun M3 _ hM3 => (Fr.c (fun r5 => (Fr.i (fX7_foldNext_b23 hM3) (Fr.c (fun r23 => (Fr.i (fX7_foldNext_b23 hM3) (fX7_foldNext_b24 hM3)))))))))
theorem fX7_unfold_b36 {ih36 : Int32 → Int32 → Mem → Option (Mem × Int32)} {x1 : Int32} {x2 : Int32} {M : Mem} (hih36 : ∀ (v0 : Int32) (v1 : Int32) (v2 : Mem), KS SB2 M0 v2 → Fr SB2 M0 (ih36 v0 v1 v2)) (hM : KS SB2 M0 M) : Fr SB2 M0 (mX7_unfold_b36 135 ih36 x1 x2 M) := by
  unfold mX7_unfold_b36
  exact (Fr.i (Fr.ok hM) (Fr.k (Fr.bw ⟨by decide, fun q => absurd q.1 (by decide)⟩ hM (fun M17 hM17 => (Fr.b (fun x2_49 => (hih36 _ _ _ hM17)))))))
theorem fX7_unfold_l36_n  : ∀ (n : Nat) (v0 : Int32) (v1 : Int32) (v2 : Mem), KS SB2 M0 v2 → Fr SB2 M0 (mX7_unfold_l36 135 n v0 v1 v2) := by
  intro n
  induction n with
  | zero => intro v0 v1 v2 h; exact Fr.n
  | succ n IH => intro v0 v1 v2 h; exact fX7_unfold_b36  IH h
theorem fX7_unfold_l36  {v0 : Int32} {v1 : Int32} {v2 : Mem} {n : Nat} (h : KS SB2 M0 v2) : Fr SB2 M0 (mX7_unfold_l36 135 n v0 v1 v2) := fX7_unfold_l36_n   n v0 v1 v2 h
theorem fX7_unfold {M : Mem} (hM : KS SB2 M0 M) : Fr SB2 M0 (mX7_unfold 135 M) := by
  unfold mX7_unfold
  exact (Fr.bw (by decide) hM (fun M1 hM1 => (Fr.m (fX7_remember hM1) (fun M5 _ hM5 => (Fr.k (Fr.b (fun x1_16 => (Fr.k (Fr.bw ⟨by decide, fun q => absurd q.1 (by decide)⟩ hM5 (fun M10 hM10 => (Fr.k (Fr.bw ⟨by decide, fun q => absurd q.1 (by decide)⟩ hM10 (fun M13 hM13 => (fX7_unfold_l36 hM13))))))))))))))
theorem fX7_set {x1 : Int32} {x2 : Int32} {M : Mem} (hM : KS SB2 M0 M) : Fr SB2 M0 (mX7_set 135 x1 x2 M) := by
  unfold mX7_set
  exact (Fr.m (fX7_remember hM) (fun M3 _ hM3 => (Fr.k (Fr.b (fun x3_10 => (Fr.k (Fr.bw ⟨by decide, fun q => absurd q.1 (by decide)⟩ hM3 (fun M8 hM8 => (Fr.ok hM8)))))))))
theorem fX7_setLeg_b30 {x1 : Int32} {x2 : Int32} {y1 : Int32} {y2 : Int32} {y3 : Int32} {M : Mem} (hM : KS SB2 M0 M) : Fr SB2 M0 (mX7_setLeg_b30 135 x1 x2 y1 y2 y3 M) := by
  unfold mX7_setLeg_b30
  exact (Fr.m (fX7_good__ hM) (fun M11 r10 hM11 => (Fr.i (Fr.ok hM11) (Fr.m (fX7_set hM11) (fun M15 r14 hM15 => (Fr.ok hM15))))))
theorem fX7_setLeg {x1 : Int32} {x2 : Int32} {M : Mem} (hM : KS SB2 M0 M) : Fr SB2 M0 (mX7_setLeg 135 x1 x2 M) := by
  unfold mX7_setLeg
  exact (Fr.c (fun r2 => (Fr.c (fun r5 => (Fr.k (Fr.i (fX7_setLeg_b30 hM) (fX7_setLeg_b30 hM)))))))
theorem fX7_setDirection_b41 {y1 : Int32} {y2 : Int32} {M : Mem} (hM : KS SB2 M0 M) : Fr SB2 M0 (mX7_setDirection_b41 135 y1 y2 M) := by
  unfold mX7_setDirection_b41
  exact (Fr.m (fX7_set hM) (fun M13 r12 hM13 => (Fr.i (Fr.ok hM13) (Fr.ok hM13))))
theorem fX7_setDirection_b21 {x1 : Int32} {x2 : Int32} {y1 : Int32} {y2 : Int32} {M : Mem} (hM : KS SB2 M0 M) : Fr SB2 M0 (mX7_setDirection_b21 135 x1 x2 y1 y2 M) := by
  unfold mX7_setDirection_b21
  exact (Fr.m (fX7_good_ hM) (fun M8 r7 hM8 => (Fr.i (Fr.ok hM8) (Fr.i (fX7_setDirection_b41 hM8) (fX7_setDirection_b41 hM8)))))
theorem fX7_setDirection {x1 : Int32} {x2 : Int32} {M : Mem} (hM : KS SB2 M0 M) : Fr SB2 M0 (mX7_setDirection 135 x1 x2 M) := by
  unfold mX7_setDirection
  exact (Fr.c (fun r2 => (Fr.k (Fr.i (fX7_setDirection_b21 hM) (fX7_setDirection_b21 hM)))))
theorem fX7_setTool {x1 : Int32} {x2 : Int32} {x3 : Int32} {M : Mem} (hM : KS SB2 M0 M) : Fr SB2 M0 (mX7_setTool 135 x1 x2 x3 M) := by
  unfold mX7_setTool
  exact (Fr.c (fun r2 => (Fr.m (fX7_good hM) (fun M6 r5 hM6 => (Fr.i (Fr.ok hM6) (Fr.m (fX7_set hM6) (fun M10 r9 hM10 => (Fr.k (Fr.bw ⟨by decide, fun q => absurd q.1 (by decide)⟩ hM10 (fun M13 hM13 => (Fr.ok hM13)))))))))))
theorem fX7_setSheet_b42 {x1 : Int32} {x2 : Int32} {x3 : Int32} {y1 : Int32} {M : Mem} (hM : KS SB2 M0 M) : Fr SB2 M0 (mX7_setSheet_b42 135 x1 x2 x3 y1 M) := by
  unfold mX7_setSheet_b42
  exact (Fr.m (fX7_good hM) (fun M7 r6 hM7 => (Fr.i (Fr.ok hM7) (Fr.m (fX7_set hM7) (fun M11 r10 hM11 => (Fr.k (Fr.bw ⟨by decide, fun q => absurd q.1 (by decide)⟩ hM11 (fun M14 hM14 => (Fr.k (Fr.bw ⟨by decide, fun q => absurd q.1 (by decide)⟩ hM14 (fun M17 hM17 => (Fr.ok hM17))))))))))))
theorem fX7_setSheet_b41 {x1 : Int32} {x2 : Int32} {x3 : Int32} {M : Mem} (hM : KS SB2 M0 M) : Fr SB2 M0 (mX7_setSheet_b41 135 x1 x2 x3 M) := by
  unfold mX7_setSheet_b41
  exact (fX7_setSheet_b42 hM)
theorem fX7_setSheet {x1 : Int32} {x2 : Int32} {x3 : Int32} {M : Mem} (hM : KS SB2 M0 M) : Fr SB2 M0 (mX7_setSheet 135 x1 x2 x3 M) := by
  unfold mX7_setSheet
  exact (Fr.c (fun r2 => (Fr.i (fX7_setSheet_b41 hM) (Fr.c (fun r19 => (Fr.i (fX7_setSheet_b41 hM) (Fr.c (fun r23 => (Fr.i (fX7_setSheet_b41 hM) (fX7_setSheet_b42 hM))))))))))
theorem fX7_setCost_b42 {x1 : Int32} {x2 : Int32} {x3 : Int32} {y1 : Int32} {M : Mem} (hM : KS SB2 M0 M) : Fr SB2 M0 (mX7_setCost_b42 135 x1 x2 x3 y1 M) := by
  unfold mX7_setCost_b42
  exact (Fr.m (fX7_good hM) (fun M7 r6 hM7 => (Fr.i (Fr.ok hM7) (Fr.m (fX7_set hM7) (fun M11 r10 hM11 => (Fr.k (Fr.bw ⟨by decide, fun q => absurd q.1 (by decide)⟩ hM11 (fun M14 hM14 => (Fr.k (Fr.bw ⟨by decide, fun q => absurd q.1 (by decide)⟩ hM14 (fun M17 hM17 => (Fr.ok hM17))))))))))))
theorem fX7_setCost_b41 {x1 : Int32} {x2 : Int32} {x3 : Int32} {M : Mem} (hM : KS SB2 M0 M) : Fr SB2 M0 (mX7_setCost_b41 135 x1 x2 x3 M) := by
  unfold mX7_setCost_b41
  exact (fX7_setCost_b42 hM)
theorem fX7_setCost {x1 : Int32} {x2 : Int32} {x3 : Int32} {M : Mem} (hM : KS SB2 M0 M) : Fr SB2 M0 (mX7_setCost 135 x1 x2 x3 M) := by
  unfold mX7_setCost
  exact (Fr.c (fun r2 => (Fr.i (fX7_setCost_b41 hM) (Fr.c (fun r19 => (Fr.i (fX7_setCost_b41 hM) (Fr.c (fun r23 => (Fr.i (fX7_setCost_b41 hM) (fX7_setCost_b42 hM))))))))))
theorem fX7_put {x1 : Int32} {M : Mem} (hM : KS SB2 M0 M) : Fr SB2 M0 (mX7_put 135 x1 M) := by
  unfold mX7_put
  exact (Fr.k (Fr.bw ⟨by decide, fun q => absurd q.1 (by decide)⟩ hM (fun M3 hM3 => (Fr.bw (by decide) hM3 (fun M4 hM4 => (Fr.ok hM4))))))
theorem fX7_putNumber_b18 {ih18 : Int32 → Int32 → Mem → Option (Mem × Unit)} {x1 : Int32} {x2 : Int32} {M : Mem} (hih18 : ∀ (v0 : Int32) (v1 : Int32) (v2 : Mem), KS SB2 M0 v2 → Fr SB2 M0 (ih18 v0 v1 v2)) (hM : KS SB2 M0 M) : Fr SB2 M0 (mX7_putNumber_b18 135 ih18 x1 x2 M) := by
  unfold mX7_putNumber_b18
  exact (Fr.i (Fr.ok hM) (Fr.k (Fr.m (fX7_put hM) (fun M7 _ hM7 => (Fr.b (fun x2_39 => (hih18 _ _ _ hM7)))))))
theorem fX7_putNumber_l18_n  : ∀ (n : Nat) (v0 : Int32) (v1 : Int32) (v2 : Mem), KS SB2 M0 v2 → Fr SB2 M0 (mX7_putNumber_l18 135 n v0 v1 v2) := by
  intro n
  induction n with
  | zero => intro v0 v1 v2 h; exact Fr.n
  | succ n IH => intro v0 v1 v2 h; exact fX7_putNumber_b18  IH h
theorem fX7_putNumber_l18  {v0 : Int32} {v1 : Int32} {v2 : Mem} {n : Nat} (h : KS SB2 M0 v2) : Fr SB2 M0 (mX7_putNumber_l18 135 n v0 v1 v2) := fX7_putNumber_l18_n   n v0 v1 v2 h
theorem fX7_putNumber_b2 {ih2 : Int32 → Int32 → Mem → Option (Mem × Unit)} {x1 : Int32} {x2 : Int32} {M : Mem} (hih2 : ∀ (v0 : Int32) (v1 : Int32) (v2 : Mem), KS SB2 M0 v2 → Fr SB2 M0 (ih2 v0 v1 v2)) (hM : KS SB2 M0 M) : Fr SB2 M0 (mX7_putNumber_b2 135 ih2 x1 x2 M) := by
  unfold mX7_putNumber_b2
  exact (Fr.k (Fr.i (fX7_putNumber_l18 hM) (Fr.b (fun x2_14 => (hih2 _ _ _ hM)))))
theorem fX7_putNumber_l2_n  : ∀ (n : Nat) (v0 : Int32) (v1 : Int32) (v2 : Mem), KS SB2 M0 v2 → Fr SB2 M0 (mX7_putNumber_l2 135 n v0 v1 v2) := by
  intro n
  induction n with
  | zero => intro v0 v1 v2 h; exact Fr.n
  | succ n IH => intro v0 v1 v2 h; exact fX7_putNumber_b2  IH h
theorem fX7_putNumber_l2  {v0 : Int32} {v1 : Int32} {v2 : Mem} {n : Nat} (h : KS SB2 M0 v2) : Fr SB2 M0 (mX7_putNumber_l2 135 n v0 v1 v2) := fX7_putNumber_l2_n   n v0 v1 v2 h
theorem fX7_putNumber {x1 : Int32} {M : Mem} (hM : KS SB2 M0 M) : Fr SB2 M0 (mX7_putNumber 135 x1 M) := by
  unfold mX7_putNumber
  exact (fX7_putNumber_l2 hM)
theorem fX7_putBend_b21 {x1 : Int32} {y1 : Int32} {M : Mem} (hM : KS SB2 M0 M) : Fr SB2 M0 (mX7_putBend_b21 135 x1 y1 M) := by
  unfold mX7_putBend_b21
  exact (Fr.m (fX7_put hM) (fun M5 _ hM5 => (Fr.k (Fr.c (fun r8 => (Fr.i (Fr.ok hM5) (Fr.m (fX7_put hM5) (fun M13 _ hM13 => (Fr.ok hM13)))))))))
theorem fX7_putBend {x1 : Int32} {M : Mem} (hM : KS SB2 M0 M) : Fr SB2 M0 (mX7_putBend 135 x1 M) := by
  unfold mX7_putBend
  exact (Fr.k (Fr.i (fX7_putBend_b21 hM) (fX7_putBend_b21 hM)))
theorem fX7_putCost_b6 {ih6 : Int32 → Mem → Option (Mem × Unit)} {x2 : Int32} {M : Mem} (hih6 : ∀ (v0 : Int32) (v1 : Mem), KS SB2 M0 v1 → Fr SB2 M0 (ih6 v0 v1)) (hM : KS SB2 M0 M) : Fr SB2 M0 (mX7_putCost_b6 135 ih6 x2 M) := by
  unfold mX7_putCost_b6
  exact (Fr.c (fun r2 => (Fr.i (Fr.c (fun r6 => (Fr.m (fX7_putNumber hM) (fun M10 _ hM10 => (Fr.ok hM10))))) (Fr.c (fun r12 => (Fr.m (fX7_put hM) (fun M16 _ hM16 => (Fr.b (fun x2_23 => (hih6 _ _ hM16))))))))))
theorem fX7_putCost_l6_n  : ∀ (n : Nat) (v0 : Int32) (v1 : Mem), KS SB2 M0 v1 → Fr SB2 M0 (mX7_putCost_l6 135 n v0 v1) := by
  intro n
  induction n with
  | zero => intro v0 v1 h; exact Fr.n
  | succ n IH => intro v0 v1 h; exact fX7_putCost_b6  IH h
theorem fX7_putCost_l6  {v0 : Int32} {v1 : Mem} {n : Nat} (h : KS SB2 M0 v1) : Fr SB2 M0 (mX7_putCost_l6 135 n v0 v1) := fX7_putCost_l6_n   n v0 v1 h
theorem fX7_putCost {M : Mem} (hM : KS SB2 M0 M) : Fr SB2 M0 (mX7_putCost 135 M) := by
  unfold mX7_putCost
  exact (fX7_putCost_l6 hM)
theorem fX7_write_b49 {ih12 : Int32 → Mem → Option (Mem × Int32)} {x1 : Int32} {M : Mem} (hih12 : ∀ (v0 : Int32) (v1 : Mem), KS SB2 M0 v1 → Fr SB2 M0 (ih12 v0 v1)) (hM : KS SB2 M0 M) : Fr SB2 M0 (mX7_write_b49 135 ih12 x1 M) := by
  unfold mX7_write_b49
  exact (Fr.b (fun x1_49 => (hih12 _ _ hM)))
theorem fX7_write_b12 {ih12 : Int32 → Mem → Option (Mem × Int32)} {x1 : Int32} {M : Mem} (hih12 : ∀ (v0 : Int32) (v1 : Mem), KS SB2 M0 v1 → Fr SB2 M0 (ih12 v0 v1)) (hM : KS SB2 M0 M) : Fr SB2 M0 (mX7_write_b12 135 ih12 x1 M) := by
  unfold mX7_write_b12
  exact (Fr.k (Fr.i (Fr.k (Fr.i (Fr.ok hM) (Fr.m (fX7_putCost hM) (fun M11 _ hM11 => (Fr.ok hM11))))) (Fr.k (Fr.m (fX7_putNumber hM) (fun M15 _ hM15 => (Fr.k (Fr.i (fX7_write_b49 hih12 hM15) (Fr.m (fX7_putBend hM15) (fun M21 _ hM21 => (fX7_write_b49 hih12 hM21))))))))))
theorem fX7_write_l12_n  : ∀ (n : Nat) (v0 : Int32) (v1 : Mem), KS SB2 M0 v1 → Fr SB2 M0 (mX7_write_l12 135 n v0 v1) := by
  intro n
  induction n with
  | zero => intro v0 v1 h; exact Fr.n
  | succ n IH => intro v0 v1 h; exact fX7_write_b12  IH h
theorem fX7_write_l12  {v0 : Int32} {v1 : Mem} {n : Nat} (h : KS SB2 M0 v1) : Fr SB2 M0 (mX7_write_l12 135 n v0 v1) := fX7_write_l12_n   n v0 v1 h
theorem fX7_write {M : Mem} (hM : KS SB2 M0 M) : Fr SB2 M0 (mX7_write 135 M) := by
  unfold mX7_write
  exact (Fr.bw (by decide) hM (fun M1 hM1 => (Fr.bw (by decide) hM1 (fun M3 hM3 => (fX7_write_l12 hM3)))))
theorem fX7_written {x1 : Int32} {M : Mem} (hM : KS SB2 M0 M) : Fr SB2 M0 (mX7_written 135 x1 M) := by
  unfold mX7_written
  exact (Fr.c (fun r2 => (Fr.m (fX7_good hM) (fun M6 r5 hM6 => (Fr.i (Fr.ok hM6) (Fr.k (Fr.k (Fr.ok hM6))))))))
end FFref
