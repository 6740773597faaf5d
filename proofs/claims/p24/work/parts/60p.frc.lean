/-! frames of the class, reading a text left out (printed) -/
abbrev SA (k _ : Nat) : Prop := 5 ≤ k
section FFcls
variable {M0 : Mem}
theorem sbv_5 {v : Int32} : 5 ≤ sbv 133 v := by
  unfold sbv
  split
  · omega
  · split <;> omega
theorem fX1_putSheet {k0 : Nat} {x1 : Int32} {x2 : Int32} {x3 : Int32} {M : Mem} (wk0 : 5 ≤ k0) (hM : KS SA M0 M) : Fr SA M0 (mX1_putSheet k0 x1 x2 x3 M) := by
  unfold mX1_putSheet
  exact (Fr.bw (show 5 ≤ _ by first | omega | exact sbv_5) hM (fun M1 hM1 => (Fr.bw (show 5 ≤ _ by first | omega | exact sbv_5) hM1 (fun M3 hM3 => (Fr.bw (show 5 ≤ _ by first | omega | exact sbv_5) hM3 (fun M5 hM5 => (Fr.ok hM5)))))))
theorem fX1_putTool {k0 : Nat} {x1 : Int32} {x2 : Int32} {x3 : Int32} {M : Mem} (wk0 : 5 ≤ k0) (hM : KS SA M0 M) : Fr SA M0 (mX1_putTool k0 x1 x2 x3 M) := by
  unfold mX1_putTool
  exact (Fr.i (Fr.ok hM) (Fr.i (Fr.ok hM) (Fr.k (Fr.bw (show 5 ≤ _ by first | omega | exact sbv_5) hM (fun M5 hM5 => (Fr.k (Fr.bw (show 5 ≤ _ by first | omega | exact sbv_5) hM5 (fun M8 hM8 => (Fr.ok hM8)))))))))
theorem fX1_putCosts {k0 : Nat} {x1 : Int32} {x2 : Int32} {x3 : Int32} {M : Mem} (wk0 : 5 ≤ k0) (hM : KS SA M0 M) : Fr SA M0 (mX1_putCosts k0 x1 x2 x3 M) := by
  unfold mX1_putCosts
  exact (Fr.bw (show 5 ≤ _ by first | omega | exact sbv_5) hM (fun M1 hM1 => (Fr.bw (show 5 ≤ _ by first | omega | exact sbv_5) hM1 (fun M3 hM3 => (Fr.bw (show 5 ≤ _ by first | omega | exact sbv_5) hM3 (fun M5 hM5 => (Fr.ok hM5)))))))
theorem fX1_dropSteps {k0 : Nat} {M : Mem} (wk0 : 5 ≤ k0) (hM : KS SA M0 M) : Fr SA M0 (mX1_dropSteps k0 M) := by
  unfold mX1_dropSteps
  exact (Fr.bw (show 5 ≤ _ by first | omega | exact sbv_5) hM (fun M1 hM1 => (Fr.bw (show 5 ≤ _ by first | omega | exact sbv_5) hM1 (fun M3 hM3 => (Fr.ok hM3)))))
theorem fX1_clear {k0 : Nat} {M : Mem} (wk0 : 5 ≤ k0) (hM : KS SA M0 M) : Fr SA M0 (mX1_clear k0 M) := by
  unfold mX1_clear
  exact (Fr.bw (show 5 ≤ _ by first | omega | exact sbv_5) hM (fun M1 hM1 => (Fr.bw (show 5 ≤ _ by first | omega | exact sbv_5) hM1 (fun M3 hM3 => (Fr.bw (show 5 ≤ _ by first | omega | exact sbv_5) hM3 (fun M5 hM5 => (Fr.m (fX1_putSheet (by first | omega | exact sbv_5) hM5) (fun M9 _ hM9 => (Fr.m (fX1_putTool (by first | omega | exact sbv_5) hM9) (fun M12 _ hM12 => (Fr.m (fX1_putTool (by first | omega | exact sbv_5) hM12) (fun M15 _ hM15 => (Fr.m (fX1_putTool (by first | omega | exact sbv_5) hM15) (fun M18 _ hM18 => (Fr.m (fX1_putTool (by first | omega | exact sbv_5) hM18) (fun M21 _ hM21 => (Fr.m (fX1_putTool (by first | omega | exact sbv_5) hM21) (fun M24 _ hM24 => (Fr.m (fX1_putCosts (by first | omega | exact sbv_5) hM24) (fun M27 _ hM27 => (Fr.m (fX1_dropSteps (by first | omega | exact sbv_5) hM27) (fun M30 _ hM30 => (Fr.ok hM30)))))))))))))))))))))))
theorem fX1_copyFrom {k0 : Nat} {k1 : Nat} {M : Mem} (wk0 : 5 ≤ k0) (hM : KS SA M0 M) : Fr SA M0 (mX1_copyFrom k0 k1 M) := by
  unfold mX1_copyFrom
  exact (Fr.bw (show 5 ≤ _ by first | omega | exact sbv_5) hM (fun M1 hM1 => (Fr.bc (fun _ => (show 5 ≤ _ by first | omega | exact sbv_5)) hM1 (fun M3 hM3 => (Fr.bw (show 5 ≤ _ by first | omega | exact sbv_5) hM3 (fun M5 hM5 => (Fr.m (fX1_putSheet (by first | omega | exact sbv_5) hM5) (fun M9 _ hM9 => (Fr.bc (fun _ => (show 5 ≤ _ by first | omega | exact sbv_5)) hM9 (fun M10 hM10 => (Fr.m (fX1_putCosts (by first | omega | exact sbv_5) hM10) (fun M14 _ hM14 => (Fr.bw (show 5 ≤ _ by first | omega | exact sbv_5) hM14 (fun M15 hM15 => (Fr.bc (fun _ => (show 5 ≤ _ by first | omega | exact sbv_5)) hM15 (fun M17 hM17 => (Fr.bc (fun _ => (show 5 ≤ _ by first | omega | exact sbv_5)) hM17 (fun M19 hM19 => (Fr.bw (show 5 ≤ _ by first | omega | exact sbv_5) hM19 (fun M21 hM21 => (Fr.bw (show 5 ≤ _ by first | omega | exact sbv_5) hM21 (fun M23 hM23 => (Fr.bc (fun _ => (show 5 ≤ _ by first | omega | exact sbv_5)) hM23 (fun M25 hM25 => (Fr.bc (fun _ => (show 5 ≤ _ by first | omega | exact sbv_5)) hM25 (fun M27 hM27 => (Fr.bc (fun _ => (show 5 ≤ _ by first | omega | exact sbv_5)) hM27 (fun M29 hM29 => (Fr.ok hM29)))))))))))))))))))))))))))))
theorem fX1_addBack {k0 : Nat} {x1 : Int32} {x2 : Int32} {M : Mem} (wk0 : 5 ≤ k0) (hM : KS SA M0 M) : Fr SA M0 (mX1_addBack k0 x1 x2 M) := by
  unfold mX1_addBack
  exact (Fr.i (Fr.ok hM) (Fr.k (Fr.bw (show 5 ≤ _ by first | omega | exact sbv_5) hM (fun M4 hM4 => (Fr.k (Fr.bw (show 5 ≤ _ by first | omega | exact sbv_5) hM4 (fun M7 hM7 => (Fr.bw (show 5 ≤ _ by first | omega | exact sbv_5) hM7 (fun M8 hM8 => (Fr.ok hM8))))))))))
theorem fX1_addLeg_b47 {k0 : Nat} {M : Mem} (wk0 : 5 ≤ k0) (hM : KS SA M0 M) : Fr SA M0 (mX1_addLeg_b47 k0 M) := by
  unfold mX1_addLeg_b47
  exact (Fr.bw (show 5 ≤ _ by first | omega | exact sbv_5) hM (fun M6 hM6 => (Fr.ok hM6)))
theorem fX1_addLeg {k0 : Nat} {x1 : Int32} {x2 : Int32} {M : Mem} (wk0 : 5 ≤ k0) (hM : KS SA M0 M) : Fr SA M0 (mX1_addLeg k0 x1 x2 M) := by
  unfold mX1_addLeg
  exact (Fr.i (Fr.ok hM) (Fr.k (Fr.bw (show 5 ≤ _ by first | omega | exact sbv_5) hM (fun M4 hM4 => (Fr.i (fX1_addLeg_b47 (by first | omega | exact sbv_5) hM4) (Fr.i (fX1_addLeg_b47 (by first | omega | exact sbv_5) hM4) (Fr.bw (show 5 ≤ _ by first | omega | exact sbv_5) hM4 (fun M9 hM9 => (fX1_addLeg_b47 (by first | omega | exact sbv_5) hM9)))))))))
theorem fX1_addStep {k0 : Nat} {x1 : Int32} {x2 : Int32} {x3 : Int32} {M : Mem} (wk0 : 5 ≤ k0) (hM : KS SA M0 M) : Fr SA M0 (mX1_addStep k0 x1 x2 x3 M) := by
  unfold mX1_addStep
  exact (Fr.i (Fr.ok hM) (Fr.k (Fr.bw (show 5 ≤ _ by first | omega | exact sbv_5) hM (fun M4 hM4 => (Fr.k (Fr.bw (show 5 ≤ _ by first | omega | exact sbv_5) hM4 (fun M7 hM7 => (Fr.k (Fr.bw (show 5 ≤ _ by first | omega | exact sbv_5) hM7 (fun M10 hM10 => (Fr.bw (show 5 ≤ _ by first | omega | exact sbv_5) hM10 (fun M11 hM11 => (Fr.bw (show 5 ≤ _ by first | omega | exact sbv_5) hM11 (fun M13 hM13 => (Fr.ok hM13)))))))))))))))
theorem fX2_walk_b272 {k0 : Nat} {k1 : Nat} {ih13 : Int32 → Int32 → Int32 → Int32 → Int32 → Int32 → Int32 → Int32 → Mem → Option (Mem × Unit)} {x3 : Int32} {x5 : Int32} {x6 : Int32} {x7 : Int32} {x8 : Int32} {x9 : Int32} {x10 : Int32} {x11 : Int32} {M : Mem} (hih13 : ∀ (v0 : Int32) (v1 : Int32) (v2 : Int32) (v3 : Int32) (v4 : Int32) (v5 : Int32) (v6 : Int32) (v7 : Int32) (v8 : Mem), KS SA M0 v8 → Fr SA M0 (ih13 v0 v1 v2 v3 v4 v5 v6 v7 v8)) (hM : KS SA M0 M) : Fr SA M0 (mX2_walk_b272 k0 k1 ih13 x3 x5 x6 x7 x8 x9 x10 x11 M) := by
  unfold mX2_walk_b272
  exact (Fr.b (fun x11_276 => (hih13 _ _ _ _ _ _ _ _ _ hM)))
theorem fX2_walk_b267 {k0 : Nat} {k1 : Nat} {ih13 : Int32 → Int32 → Int32 → Int32 → Int32 → Int32 → Int32 → Int32 → Mem → Option (Mem × Unit)} {x3 : Int32} {x5 : Int32} {x6 : Int32} {x7 : Int32} {x8 : Int32} {x9 : Int32} {x11 : Int32} {y0 : Int32} {y1 : Int32} {M : Mem} (hih13 : ∀ (v0 : Int32) (v1 : Int32) (v2 : Int32) (v3 : Int32) (v4 : Int32) (v5 : Int32) (v6 : Int32) (v7 : Int32) (v8 : Mem), KS SA M0 v8 → Fr SA M0 (ih13 v0 v1 v2 v3 v4 v5 v6 v7 v8)) (hM : KS SA M0 M) : Fr SA M0 (mX2_walk_b267 k0 k1 ih13 x3 x5 x6 x7 x8 x9 x11 y0 y1 M) := by
  unfold mX2_walk_b267
  exact (Fr.b (fun x10_270 => (fX2_walk_b272 hih13 hM)))
theorem fX2_walk_b249 {k0 : Nat} {k1 : Nat} {ih13 : Int32 → Int32 → Int32 → Int32 → Int32 → Int32 → Int32 → Int32 → Mem → Option (Mem × Unit)} {x3 : Int32} {x5 : Int32} {x6 : Int32} {x7 : Int32} {x8 : Int32} {x9 : Int32} {x10 : Int32} {x11 : Int32} {y0 : Int32} {M : Mem} (hih13 : ∀ (v0 : Int32) (v1 : Int32) (v2 : Int32) (v3 : Int32) (v4 : Int32) (v5 : Int32) (v6 : Int32) (v7 : Int32) (v8 : Mem), KS SA M0 v8 → Fr SA M0 (ih13 v0 v1 v2 v3 v4 v5 v6 v7 v8)) (hM : KS SA M0 M) : Fr SA M0 (mX2_walk_b249 k0 k1 ih13 x3 x5 x6 x7 x8 x9 x10 x11 y0 M) := by
  unfold mX2_walk_b249
  exact (Fr.i (fX2_walk_b267 hih13 hM) (fX2_walk_b267 hih13 hM))
theorem fX2_walk_b217 {k0 : Nat} {k1 : Nat} {ih13 : Int32 → Int32 → Int32 → Int32 → Int32 → Int32 → Int32 → Int32 → Mem → Option (Mem × Unit)} {x3 : Int32} {x5 : Int32} {x6 : Int32} {x7 : Int32} {x8 : Int32} {x9 : Int32} {x10 : Int32} {x11 : Int32} {y0 : Int32} {M : Mem} (hih13 : ∀ (v0 : Int32) (v1 : Int32) (v2 : Int32) (v3 : Int32) (v4 : Int32) (v5 : Int32) (v6 : Int32) (v7 : Int32) (v8 : Mem), KS SA M0 v8 → Fr SA M0 (ih13 v0 v1 v2 v3 v4 v5 v6 v7 v8)) (hM : KS SA M0 M) : Fr SA M0 (mX2_walk_b217 k0 k1 ih13 x3 x5 x6 x7 x8 x9 x10 x11 y0 M) := by
  unfold mX2_walk_b217
  exact (Fr.i (fX2_walk_b272 hih13 hM) (Fr.i (fX2_walk_b272 hih13 hM) (Fr.i (fX2_walk_b249 hih13 hM) (fX2_walk_b249 hih13 hM))))
theorem fX2_walk_b108 {k0 : Nat} {k1 : Nat} {ih13 : Int32 → Int32 → Int32 → Int32 → Int32 → Int32 → Int32 → Int32 → Mem → Option (Mem × Unit)} {x3 : Int32} {x5 : Int32} {x6 : Int32} {x7 : Int32} {x8 : Int32} {x9 : Int32} {x10 : Int32} {x11 : Int32} {y1 : Int32} {y2 : Int32} {y3 : Int32} {M : Mem} (wk0 : 5 ≤ k0) (hih13 : ∀ (v0 : Int32) (v1 : Int32) (v2 : Int32) (v3 : Int32) (v4 : Int32) (v5 : Int32) (v6 : Int32) (v7 : Int32) (v8 : Mem), KS SA M0 v8 → Fr SA M0 (ih13 v0 v1 v2 v3 v4 v5 v6 v7 v8)) (hM : KS SA M0 M) : Fr SA M0 (mX2_walk_b108 k0 k1 ih13 x3 x5 x6 x7 x8 x9 x10 x11 y1 y2 y3 M) := by
  unfold mX2_walk_b108
  exact (Fr.k (Fr.bw (show 5 ≤ _ by first | omega | exact sbv_5) hM (fun M15 hM15 => (Fr.k (Fr.k (Fr.bw (show 5 ≤ _ by first | omega | exact sbv_5) hM15 (fun M19 hM19 => (Fr.k (Fr.k (Fr.bw (show 5 ≤ _ by first | omega | exact sbv_5) hM19 (fun M23 hM23 => (Fr.k (Fr.k (Fr.bw (show 5 ≤ _ by first | omega | exact sbv_5) hM23 (fun M27 hM27 => (Fr.k (Fr.k (Fr.bw (show 5 ≤ _ by first | omega | exact sbv_5) hM27 (fun M31 hM31 => (Fr.k (Fr.b (fun x8_193 => (Fr.k (Fr.b (fun x9_202 => (Fr.i (fX2_walk_b217 hih13 hM31) (fX2_walk_b217 hih13 hM31)))))))))))))))))))))))))))
theorem fX2_walk_b75 {k0 : Nat} {k1 : Nat} {ih13 : Int32 → Int32 → Int32 → Int32 → Int32 → Int32 → Int32 → Int32 → Mem → Option (Mem × Unit)} {x3 : Int32} {x5 : Int32} {x6 : Int32} {x7 : Int32} {x8 : Int32} {x9 : Int32} {x10 : Int32} {x11 : Int32} {x12 : Int32} {y1 : Int32} {y2 : Int32} {y3 : Int32} {M : Mem} (wk0 : 5 ≤ k0) (hih13 : ∀ (v0 : Int32) (v1 : Int32) (v2 : Int32) (v3 : Int32) (v4 : Int32) (v5 : Int32) (v6 : Int32) (v7 : Int32) (v8 : Mem), KS SA M0 v8 → Fr SA M0 (ih13 v0 v1 v2 v3 v4 v5 v6 v7 v8)) (hM : KS SA M0 M) : Fr SA M0 (mX2_walk_b75 k0 k1 ih13 x3 x5 x6 x7 x8 x9 x10 x11 x12 y1 y2 y3 M) := by
  unfold mX2_walk_b75
  exact (Fr.k (Fr.bw (show 5 ≤ _ by first | omega | exact sbv_5) hM (fun M10 hM10 => (Fr.i (fX2_walk_b108 (by first | omega | exact sbv_5) hih13 hM10) (Fr.i (fX2_walk_b108 (by first | omega | exact sbv_5) hih13 hM10) (fX2_walk_b108 (by first | omega | exact sbv_5) hih13 hM10))))))
theorem fX2_walk_b13 {k0 : Nat} {k1 : Nat} {ih13 : Int32 → Int32 → Int32 → Int32 → Int32 → Int32 → Int32 → Int32 → Mem → Option (Mem × Unit)} {x3 : Int32} {x5 : Int32} {x6 : Int32} {x7 : Int32} {x8 : Int32} {x9 : Int32} {x10 : Int32} {x11 : Int32} {M : Mem} (wk0 : 5 ≤ k0) (hih13 : ∀ (v0 : Int32) (v1 : Int32) (v2 : Int32) (v3 : Int32) (v4 : Int32) (v5 : Int32) (v6 : Int32) (v7 : Int32) (v8 : Mem), KS SA M0 v8 → Fr SA M0 (ih13 v0 v1 v2 v3 v4 v5 v6 v7 v8)) (hM : KS SA M0 M) : Fr SA M0 (mX2_walk_b13 k0 k1 ih13 x3 x5 x6 x7 x8 x9 x10 x11 M) := by
  unfold mX2_walk_b13
  exact (Fr.i (Fr.ok hM) (Fr.i (Fr.ok hM) (Fr.i (Fr.ok hM) (Fr.k (Fr.b (fun x12_41 => (Fr.i (fX2_walk_b75 (by first | omega | exact sbv_5) hih13 hM) (Fr.i (fX2_walk_b75 (by first | omega | exact sbv_5) hih13 hM) (fX2_walk_b75 (by first | omega | exact sbv_5) hih13 hM)))))))))
theorem fX2_walk_l13_n {k0 : Nat} {k1 : Nat} (wk0 : 5 ≤ k0) : ∀ (n : Nat) (v0 : Int32) (v1 : Int32) (v2 : Int32) (v3 : Int32) (v4 : Int32) (v5 : Int32) (v6 : Int32) (v7 : Int32) (v8 : Mem), KS SA M0 v8 → Fr SA M0 (mX2_walk_l13 k0 k1 n v0 v1 v2 v3 v4 v5 v6 v7 v8) := by
  intro n
  induction n with
  | zero => intro v0 v1 v2 v3 v4 v5 v6 v7 v8 h; exact Fr.n
  | succ n IH => intro v0 v1 v2 v3 v4 v5 v6 v7 v8 h; exact fX2_walk_b13 (by omega) IH h
theorem fX2_walk_l13 {k0 : Nat} {k1 : Nat} {v0 : Int32} {v1 : Int32} {v2 : Int32} {v3 : Int32} {v4 : Int32} {v5 : Int32} {v6 : Int32} {v7 : Int32} {v8 : Mem} (wk0 : 5 ≤ k0) {n : Nat} (h : KS SA M0 v8) : Fr SA M0 (mX2_walk_l13 k0 k1 n v0 v1 v2 v3 v4 v5 v6 v7 v8) := fX2_walk_l13_n wk0  n v0 v1 v2 v3 v4 v5 v6 v7 v8 h
theorem fX2_walk {k0 : Nat} {k1 : Nat} {x2 : Int32} {x3 : Int32} {x4 : Int32} {x5 : Int32} {x6 : Int32} {x7 : Int32} {M : Mem} (wk0 : 5 ≤ k0) (hM : KS SA M0 M) : Fr SA M0 (mX2_walk k0 k1 x2 x3 x4 x5 x6 x7 M) := by
  unfold mX2_walk
  exact (fX2_walk_l13 (by first | omega | exact sbv_5) hM)
theorem fX2_layFinished {k0 : Nat} {k1 : Nat} {M : Mem} (wk0 : 5 ≤ k0) (hM : KS SA M0 M) : Fr SA M0 (mX2_layFinished k0 k1 M) := by
  unfold mX2_layFinished
  exact (Fr.bw (show 5 ≤ _ by first | omega | exact sbv_5) hM (fun M1 hM1 => (Fr.c (fun r4 => (Fr.m (fX2_walk (by first | omega | exact sbv_5) hM1) (fun M8 _ hM8 => (Fr.ok hM8)))))))
theorem fX2_layStep_b27 {k0 : Nat} {k1 : Nat} {x2 : Int32} {x3 : Int32} {x4 : Int32} {y0 : Int32} {M : Mem} (wk0 : 5 ≤ k0) (hM : KS SA M0 M) : Fr SA M0 (mX2_layStep_b27 k0 k1 x2 x3 x4 y0 M) := by
  unfold mX2_layStep_b27
  exact (Fr.bw (show 5 ≤ _ by first | omega | exact sbv_5) hM (fun M6 hM6 => (Fr.i (Fr.bw (show 5 ≤ _ by first | omega | exact sbv_5) hM6 (fun M19 hM19 => (Fr.bw (show 5 ≤ _ by first | omega | exact sbv_5) hM19 (fun M21 hM21 => (Fr.m (fX2_walk (by first | omega | exact sbv_5) hM21) (fun M25 _ hM25 => (Fr.m (fX2_walk (by first | omega | exact sbv_5) hM25) (fun M28 _ hM28 => (Fr.ok hM28))))))))) (Fr.bw (show 5 ≤ _ by first | omega | exact sbv_5) hM6 (fun M9 hM9 => (Fr.bw (show 5 ≤ _ by first | omega | exact sbv_5) hM9 (fun M11 hM11 => (Fr.m (fX2_walk (by first | omega | exact sbv_5) hM11) (fun M15 _ hM15 => (Fr.m (fX2_walk (by first | omega | exact sbv_5) hM15) (fun M18 _ hM18 => (Fr.ok hM18))))))))))))
theorem fX2_layStep {k0 : Nat} {k1 : Nat} {x2 : Int32} {x3 : Int32} {M : Mem} (wk0 : 5 ≤ k0) (hM : KS SA M0 M) : Fr SA M0 (mX2_layStep k0 k1 x2 x3 M) := by
  unfold mX2_layStep
  exact (Fr.b (fun x4_3 => (Fr.c (fun r3 => (Fr.i (fX2_layStep_b27 (by first | omega | exact sbv_5) hM) (fX2_layStep_b27 (by first | omega | exact sbv_5) hM))))))
theorem fX2_reasonFor_b20 {k0 : Nat} {k1 : Nat} {x2 : Int32} {x3 : Int32} {x4 : Int32} {y0 : Int32} {M : Mem} (wk0 : 5 ≤ k0) (hM : KS SA M0 M) : Fr SA M0 (mX2_reasonFor_b20 k0 k1 x2 x3 x4 y0 M) := by
  unfold mX2_reasonFor_b20
  exact (Fr.i (Fr.i (Fr.ok hM) (Fr.i (Fr.ok hM) (Fr.k (Fr.k (Fr.i (Fr.m (fX2_layStep (by first | omega | exact sbv_5) hM) (fun M11 _ hM11 => (Fr.c (fun r13 => (Fr.k (Fr.i (Fr.ok hM11) (Fr.k (Fr.i (Fr.c (fun r20 => (Fr.b (fun x8_123 => (Fr.i (Fr.i (Fr.c (fun r26 => (Fr.i (Fr.ok hM11) (Fr.ok hM11)))) (Fr.ok hM11)) (Fr.ok hM11)))))) (Fr.ok hM11))))))))) (Fr.ok hM)))))) (Fr.ok hM))
theorem fX2_reasonFor {k0 : Nat} {k1 : Nat} {x2 : Int32} {x3 : Int32} {M : Mem} (wk0 : 5 ≤ k0) (hM : KS SA M0 M) : Fr SA M0 (mX2_reasonFor k0 k1 x2 x3 M) := by
  unfold mX2_reasonFor
  exact (Fr.b (fun x4_3 => (Fr.i (fX2_reasonFor_b20 (by first | omega | exact sbv_5) hM) (fX2_reasonFor_b20 (by first | omega | exact sbv_5) hM))))
theorem fX2_possibleSteps_b34 {k0 : Nat} {k1 : Nat} {ih5 : Int32 → Int32 → Int32 → Mem → Option (Mem × Int32)} {x2 : Int32} {x3 : Int32} {x4 : Int32} {M : Mem} (hih5 : ∀ (v0 : Int32) (v1 : Int32) (v2 : Int32) (v3 : Mem), KS SA M0 v3 → Fr SA M0 (ih5 v0 v1 v2 v3)) (hM : KS SA M0 M) : Fr SA M0 (mX2_possibleSteps_b34 k0 k1 ih5 x2 x3 x4 M) := by
  unfold mX2_possibleSteps_b34
  exact (Fr.b (fun x4_34 => (hih5 _ _ _ _ hM)))
theorem fX2_possibleSteps_b5 {k0 : Nat} {k1 : Nat} {ih5 : Int32 → Int32 → Int32 → Mem → Option (Mem × Int32)} {x2 : Int32} {x3 : Int32} {x4 : Int32} {M : Mem} (wk0 : 5 ≤ k0) (hih5 : ∀ (v0 : Int32) (v1 : Int32) (v2 : Int32) (v3 : Mem), KS SA M0 v3 → Fr SA M0 (ih5 v0 v1 v2 v3)) (hM : KS SA M0 M) : Fr SA M0 (mX2_possibleSteps_b5 k0 k1 ih5 x2 x3 x4 M) := by
  unfold mX2_possibleSteps_b5
  exact (Fr.c (fun r2 => (Fr.i (Fr.ok hM) (Fr.m (fX2_reasonFor (by first | omega | exact sbv_5) hM) (fun M7 r6 hM7 => (Fr.i (Fr.b (fun x3_33 => (fX2_possibleSteps_b34 hih5 hM7))) (fX2_possibleSteps_b34 hih5 hM7)))))))
theorem fX2_possibleSteps_l5_n {k0 : Nat} {k1 : Nat} (wk0 : 5 ≤ k0) : ∀ (n : Nat) (v0 : Int32) (v1 : Int32) (v2 : Int32) (v3 : Mem), KS SA M0 v3 → Fr SA M0 (mX2_possibleSteps_l5 k0 k1 n v0 v1 v2 v3) := by
  intro n
  induction n with
  | zero => intro v0 v1 v2 v3 h; exact Fr.n
  | succ n IH => intro v0 v1 v2 v3 h; exact fX2_possibleSteps_b5 (by omega) IH h
theorem fX2_possibleSteps_l5 {k0 : Nat} {k1 : Nat} {v0 : Int32} {v1 : Int32} {v2 : Int32} {v3 : Mem} (wk0 : 5 ≤ k0) {n : Nat} (h : KS SA M0 v3) : Fr SA M0 (mX2_possibleSteps_l5 k0 k1 n v0 v1 v2 v3) := fX2_possibleSteps_l5_n wk0  n v0 v1 v2 v3 h
theorem fX2_possibleSteps {k0 : Nat} {k1 : Nat} {x2 : Int32} {M : Mem} (wk0 : 5 ≤ k0) (hM : KS SA M0 M) : Fr SA M0 (mX2_possibleSteps k0 k1 x2 M) := by
  unfold mX2_possibleSteps
  exact (fX2_possibleSteps_l5 (by first | omega | exact sbv_5) hM)
theorem fX3_forgetSteps_b2 {k0 : Nat} {ih2 : Int32 → Mem → Option (Mem × Unit)} {x1 : Int32} {M : Mem} (wk0 : 5 ≤ k0) (hih2 : ∀ (v0 : Int32) (v1 : Mem), KS SA M0 v1 → Fr SA M0 (ih2 v0 v1)) (hM : KS SA M0 M) : Fr SA M0 (mX3_forgetSteps_b2 k0 ih2 x1 M) := by
  unfold mX3_forgetSteps_b2
  exact (Fr.i (Fr.ok hM) (Fr.k (Fr.bw (show 5 ≤ _ by first | omega | exact sbv_5) hM (fun M4 hM4 => (Fr.b (fun x1_16 => (hih2 _ _ hM4)))))))
theorem fX3_forgetSteps_l2_n {k0 : Nat} (wk0 : 5 ≤ k0) : ∀ (n : Nat) (v0 : Int32) (v1 : Mem), KS SA M0 v1 → Fr SA M0 (mX3_forgetSteps_l2 k0 n v0 v1) := by
  intro n
  induction n with
  | zero => intro v0 v1 h; exact Fr.n
  | succ n IH => intro v0 v1 h; exact fX3_forgetSteps_b2 (by omega) IH h
theorem fX3_forgetSteps_l2 {k0 : Nat} {v0 : Int32} {v1 : Mem} (wk0 : 5 ≤ k0) {n : Nat} (h : KS SA M0 v1) : Fr SA M0 (mX3_forgetSteps_l2 k0 n v0 v1) := fX3_forgetSteps_l2_n wk0  n v0 v1 h
theorem fX3_forgetSteps {k0 : Nat} {M : Mem} (wk0 : 5 ≤ k0) (hM : KS SA M0 M) : Fr SA M0 (mX3_forgetSteps k0 M) := by
  unfold mX3_forgetSteps
  exact (fX3_forgetSteps_l2 (by first | omega | exact sbv_5) hM)
theorem fX3_findSteps_b63 {k0 : Nat} {k1 : Nat} {ih5 : Int32 → Int32 → Int32 → Mem → Option (Mem × Int32)} {x2 : Int32} {x3 : Int32} {x4 : Int32} {M : Mem} (hih5 : ∀ (v0 : Int32) (v1 : Int32) (v2 : Int32) (v3 : Mem), KS SA M0 v3 → Fr SA M0 (ih5 v0 v1 v2 v3)) (hM : KS SA M0 M) : Fr SA M0 (mX3_findSteps_b63 k0 k1 ih5 x2 x3 x4 M) := by
  unfold mX3_findSteps_b63
  exact (Fr.b (fun x4_63 => (hih5 _ _ _ _ hM)))
theorem fX3_findSteps_b5 {k0 : Nat} {k1 : Nat} {ih5 : Int32 → Int32 → Int32 → Mem → Option (Mem × Int32)} {x2 : Int32} {x3 : Int32} {x4 : Int32} {M : Mem} (wk0 : 5 ≤ k0) (hih5 : ∀ (v0 : Int32) (v1 : Int32) (v2 : Int32) (v3 : Mem), KS SA M0 v3 → Fr SA M0 (ih5 v0 v1 v2 v3)) (hM : KS SA M0 M) : Fr SA M0 (mX3_findSteps_b5 k0 k1 ih5 x2 x3 x4 M) := by
  unfold mX3_findSteps_b5
  exact (Fr.c (fun r2 => (Fr.i (Fr.ok hM) (Fr.i (Fr.ok hM) (Fr.m (fX2_reasonFor (by first | omega | exact sbv_5) hM) (fun M8 r7 hM8 => (Fr.i (Fr.b (fun x3_43 => (Fr.c (fun r13 => (Fr.k (Fr.bw (show 5 ≤ _ by first | omega | exact sbv_5) hM8 (fun M17 hM17 => (fX3_findSteps_b63 hih5 hM17)))))))) (fX3_findSteps_b63 hih5 hM8))))))))
theorem fX3_findSteps_l5_n {k0 : Nat} {k1 : Nat} (wk0 : 5 ≤ k0) : ∀ (n : Nat) (v0 : Int32) (v1 : Int32) (v2 : Int32) (v3 : Mem), KS SA M0 v3 → Fr SA M0 (mX3_findSteps_l5 k0 k1 n v0 v1 v2 v3) := by
  intro n
  induction n with
  | zero => intro v0 v1 v2 v3 h; exact Fr.n
  | succ n IH => intro v0 v1 v2 v3 h; exact fX3_findSteps_b5 (by omega) IH h
theorem fX3_findSteps_l5 {k0 : Nat} {k1 : Nat} {v0 : Int32} {v1 : Int32} {v2 : Int32} {v3 : Mem} (wk0 : 5 ≤ k0) {n : Nat} (h : KS SA M0 v3) : Fr SA M0 (mX3_findSteps_l5 k0 k1 n v0 v1 v2 v3) := fX3_findSteps_l5_n wk0  n v0 v1 v2 v3 h
theorem fX3_findSteps {k0 : Nat} {k1 : Nat} {x2 : Int32} {M : Mem} (wk0 : 5 ≤ k0) (hM : KS SA M0 M) : Fr SA M0 (mX3_findSteps k0 k1 x2 M) := by
  unfold mX3_findSteps
  exact (fX3_findSteps_l5 (by first | omega | exact sbv_5) hM)
theorem fX3_reachSets_b142 {k0 : Nat} {k1 : Nat} {ih67 : Int32 → Mem → Option (Mem × Unit)} {ih107 : Int32 → Int32 → Mem → Option (Mem × Unit)} {x2 : Int32} {x3 : Int32} {M : Mem} (hih67 : ∀ (v0 : Int32) (v1 : Mem), KS SA M0 v1 → Fr SA M0 (ih67 v0 v1)) (hih107 : ∀ (v0 : Int32) (v1 : Int32) (v2 : Mem), KS SA M0 v2 → Fr SA M0 (ih107 v0 v1 v2)) (hM : KS SA M0 M) : Fr SA M0 (mX3_reachSets_b142 k0 k1 ih67 ih107 x2 x3 M) := by
  unfold mX3_reachSets_b142
  exact (Fr.b (fun x3_142 => (hih107 _ _ _ hM)))
theorem fX3_reachSets_b107 {k0 : Nat} {k1 : Nat} {ih67 : Int32 → Mem → Option (Mem × Unit)} {ih107 : Int32 → Int32 → Mem → Option (Mem × Unit)} {x2 : Int32} {x3 : Int32} {M : Mem} (wk0 : 5 ≤ k0) (hih67 : ∀ (v0 : Int32) (v1 : Mem), KS SA M0 v1 → Fr SA M0 (ih67 v0 v1)) (hih107 : ∀ (v0 : Int32) (v1 : Int32) (v2 : Mem), KS SA M0 v2 → Fr SA M0 (ih107 v0 v1 v2)) (hM : KS SA M0 M) : Fr SA M0 (mX3_reachSets_b107 k0 k1 ih67 ih107 x2 x3 M) := by
  unfold mX3_reachSets_b107
  exact (Fr.i (Fr.b (fun x2_148 => (hih67 _ _ hM))) (Fr.k (Fr.i (fX3_reachSets_b142 hih67 hih107 hM) (Fr.c (fun r21 => (Fr.i (fX3_reachSets_b142 hih67 hih107 hM) (Fr.c (fun r25 => (Fr.k (Fr.bw (show 5 ≤ _ by first | omega | exact sbv_5) hM (fun M29 hM29 => (fX3_reachSets_b142 hih67 hih107 hM29))))))))))))
theorem fX3_reachSets_l107_n {k0 : Nat} {k1 : Nat} {ih67 : Int32 → Mem → Option (Mem × Unit)} (wk0 : 5 ≤ k0) (hih67 : ∀ (u0 : Int32) (u1 : Mem), KS SA M0 u1 → Fr SA M0 (ih67 u0 u1)) : ∀ (n : Nat) (v0 : Int32) (v1 : Int32) (v2 : Mem), KS SA M0 v2 → Fr SA M0 (mX3_reachSets_l107 k0 k1 ih67 n v0 v1 v2) := by
  intro n
  induction n with
  | zero => intro v0 v1 v2 h; exact Fr.n
  | succ n IH => intro v0 v1 v2 h; exact fX3_reachSets_b107 (by omega) hih67 IH h
theorem fX3_reachSets_l107 {k0 : Nat} {k1 : Nat} {ih67 : Int32 → Mem → Option (Mem × Unit)} {v0 : Int32} {v1 : Int32} {v2 : Mem} (wk0 : 5 ≤ k0) (hih67 : ∀ (u0 : Int32) (u1 : Mem), KS SA M0 u1 → Fr SA M0 (ih67 u0 u1)) {n : Nat} (h : KS SA M0 v2) : Fr SA M0 (mX3_reachSets_l107 k0 k1 ih67 n v0 v1 v2) := fX3_reachSets_l107_n wk0 hih67 n v0 v1 v2 h
theorem fX3_reachSets_b105 {k0 : Nat} {k1 : Nat} {ih67 : Int32 → Mem → Option (Mem × Unit)} {x2 : Int32} {M : Mem} (wk0 : 5 ≤ k0) (hih67 : ∀ (v0 : Int32) (v1 : Mem), KS SA M0 v1 → Fr SA M0 (ih67 v0 v1)) (hM : KS SA M0 M) : Fr SA M0 (mX3_reachSets_b105 k0 k1 ih67 x2 M) := by
  unfold mX3_reachSets_b105
  exact (fX3_reachSets_l107 (by first | omega | exact sbv_5) hih67 hM)
theorem fX3_reachSets_b67 {k0 : Nat} {k1 : Nat} {ih67 : Int32 → Mem → Option (Mem × Unit)} {x2 : Int32} {M : Mem} (wk0 : 5 ≤ k0) (hih67 : ∀ (v0 : Int32) (v1 : Mem), KS SA M0 v1 → Fr SA M0 (ih67 v0 v1)) (hM : KS SA M0 M) : Fr SA M0 (mX3_reachSets_b67 k0 k1 ih67 x2 M) := by
  unfold mX3_reachSets_b67
  exact (Fr.i (Fr.ok hM) (Fr.k (Fr.i (fX3_reachSets_b105 (by first | omega | exact sbv_5) hih67 hM) (Fr.k (Fr.i (Fr.m (fX3_findSteps (by first | omega | exact sbv_5) hM) (fun M34 r33 hM34 => (Fr.k (Fr.bw (show 5 ≤ _ by first | omega | exact sbv_5) hM34 (fun M37 hM37 => (fX3_reachSets_b105 (by first | omega | exact sbv_5) hih67 hM37)))))) (fX3_reachSets_b105 (by first | omega | exact sbv_5) hih67 hM))))))
theorem fX3_reachSets_l67_n {k0 : Nat} {k1 : Nat} (wk0 : 5 ≤ k0) : ∀ (n : Nat) (v0 : Int32) (v1 : Mem), KS SA M0 v1 → Fr SA M0 (mX3_reachSets_l67 k0 k1 n v0 v1) := by
  intro n
  induction n with
  | zero => intro v0 v1 h; exact Fr.n
  | succ n IH => intro v0 v1 h; exact fX3_reachSets_b67 (by omega) IH h
theorem fX3_reachSets_l67 {k0 : Nat} {k1 : Nat} {v0 : Int32} {v1 : Mem} (wk0 : 5 ≤ k0) {n : Nat} (h : KS SA M0 v1) : Fr SA M0 (mX3_reachSets_l67 k0 k1 n v0 v1) := fX3_reachSets_l67_n wk0  n v0 v1 h
theorem fX3_reachSets_b55 {k0 : Nat} {k1 : Nat} {ih30 : Int32 → Mem → Option (Mem × Unit)} {x2 : Int32} {y1 : Int32} {y2 : Int32} {M : Mem} (wk0 : 5 ≤ k0) (hih30 : ∀ (v0 : Int32) (v1 : Mem), KS SA M0 v1 → Fr SA M0 (ih30 v0 v1)) (hM : KS SA M0 M) : Fr SA M0 (mX3_reachSets_b55 k0 k1 ih30 x2 y1 y2 M) := by
  unfold mX3_reachSets_b55
  exact (Fr.k (Fr.bw (show 5 ≤ _ by first | omega | exact sbv_5) hM (fun M41 hM41 => (Fr.b (fun x2_56 => (hih30 _ _ hM41))))))
theorem fX3_reachSets_b30 {k0 : Nat} {k1 : Nat} {ih30 : Int32 → Mem → Option (Mem × Unit)} {x2 : Int32} {M : Mem} (wk0 : 5 ≤ k0) (hih30 : ∀ (v0 : Int32) (v1 : Mem), KS SA M0 v1 → Fr SA M0 (ih30 v0 v1)) (hM : KS SA M0 M) : Fr SA M0 (mX3_reachSets_b30 k0 k1 ih30 x2 M) := by
  unfold mX3_reachSets_b30
  exact (Fr.i (Fr.b (fun x2_66 => (fX3_reachSets_l67 (by first | omega | exact sbv_5) hM))) (Fr.i (fX3_reachSets_b55 (by first | omega | exact sbv_5) hih30 hM) (fX3_reachSets_b55 (by first | omega | exact sbv_5) hih30 hM)))
theorem fX3_reachSets_l30_n {k0 : Nat} {k1 : Nat} (wk0 : 5 ≤ k0) : ∀ (n : Nat) (v0 : Int32) (v1 : Mem), KS SA M0 v1 → Fr SA M0 (mX3_reachSets_l30 k0 k1 n v0 v1) := by
  intro n
  induction n with
  | zero => intro v0 v1 h; exact Fr.n
  | succ n IH => intro v0 v1 h; exact fX3_reachSets_b30 (by omega) IH h
theorem fX3_reachSets_l30 {k0 : Nat} {k1 : Nat} {v0 : Int32} {v1 : Mem} (wk0 : 5 ≤ k0) {n : Nat} (h : KS SA M0 v1) : Fr SA M0 (mX3_reachSets_l30 k0 k1 n v0 v1) := fX3_reachSets_l30_n wk0  n v0 v1 h
theorem fX3_reachSets_b15 {k0 : Nat} {k1 : Nat} {M : Mem} (wk0 : 5 ≤ k0) (hM : KS SA M0 M) : Fr SA M0 (mX3_reachSets_b15 k0 k1 M) := by
  unfold mX3_reachSets_b15
  exact (Fr.m (fX1_copyFrom (by first | omega | exact sbv_5) hM) (fun M7 _ hM7 => (Fr.bw (show 5 ≤ _ by first | omega | exact sbv_5) hM7 (fun M8 hM8 => (fX3_reachSets_l30 (by first | omega | exact sbv_5) hM8)))))
theorem fX3_reachSets {k0 : Nat} {k1 : Nat} {M : Mem} (wk0 : 5 ≤ k0) (hM : KS SA M0 M) : Fr SA M0 (mX3_reachSets k0 k1 M) := by
  unfold mX3_reachSets
  exact (Fr.c (fun r2 => (Fr.i (Fr.m (fX3_forgetSteps (by first | omega | exact sbv_5) hM) (fun M45 _ hM45 => (fX3_reachSets_b15 (by first | omega | exact sbv_5) hM45))) (fX3_reachSets_b15 (by first | omega | exact sbv_5) hM))))
theorem fX3_countOrders_b78 {k0 : Nat} {k1 : Nat} {ih9 : Int32 → Int32 → Mem → Option (Mem × Unit)} {ih32 : Int32 → Int32 → Int32 → Mem → Option (Mem × Unit)} {x2 : Int32} {x3 : Int32} {x4 : Int32} {M : Mem} (hih9 : ∀ (v0 : Int32) (v1 : Int32) (v2 : Mem), KS SA M0 v2 → Fr SA M0 (ih9 v0 v1 v2)) (hih32 : ∀ (v0 : Int32) (v1 : Int32) (v2 : Int32) (v3 : Mem), KS SA M0 v3 → Fr SA M0 (ih32 v0 v1 v2 v3)) (hM : KS SA M0 M) : Fr SA M0 (mX3_countOrders_b78 k0 k1 ih9 ih32 x2 x3 x4 M) := by
  unfold mX3_countOrders_b78
  exact (Fr.b (fun x4_78 => (hih32 _ _ _ _ hM)))
theorem fX3_countOrders_b32 {k0 : Nat} {k1 : Nat} {ih9 : Int32 → Int32 → Mem → Option (Mem × Unit)} {ih32 : Int32 → Int32 → Int32 → Mem → Option (Mem × Unit)} {x2 : Int32} {x3 : Int32} {x4 : Int32} {M : Mem} (wk0 : 5 ≤ k0) (hih9 : ∀ (v0 : Int32) (v1 : Int32) (v2 : Mem), KS SA M0 v2 → Fr SA M0 (ih9 v0 v1 v2)) (hih32 : ∀ (v0 : Int32) (v1 : Int32) (v2 : Int32) (v3 : Mem), KS SA M0 v3 → Fr SA M0 (ih32 v0 v1 v2 v3)) (hM : KS SA M0 M) : Fr SA M0 (mX3_countOrders_b32 k0 k1 ih9 ih32 x2 x3 x4 M) := by
  unfold mX3_countOrders_b32
  exact (Fr.i (Fr.b (fun x3_84 => (hih9 _ _ _ hM))) (Fr.k (Fr.i (fX3_countOrders_b78 hih9 hih32 hM) (Fr.c (fun r15 => (Fr.i (fX3_countOrders_b78 hih9 hih32 hM) (Fr.k (Fr.c (fun r20 => (Fr.k (Fr.k (Fr.bl hM (fun M25 hM25 => (fX3_countOrders_b78 hih9 hih32 hM25))))))))))))))
theorem fX3_countOrders_l32_n {k0 : Nat} {k1 : Nat} {ih9 : Int32 → Int32 → Mem → Option (Mem × Unit)} (wk0 : 5 ≤ k0) (hih9 : ∀ (u0 : Int32) (u1 : Int32) (u2 : Mem), KS SA M0 u2 → Fr SA M0 (ih9 u0 u1 u2)) : ∀ (n : Nat) (v0 : Int32) (v1 : Int32) (v2 : Int32) (v3 : Mem), KS SA M0 v3 → Fr SA M0 (mX3_countOrders_l32 k0 k1 ih9 n v0 v1 v2 v3) := by
  intro n
  induction n with
  | zero => intro v0 v1 v2 v3 h; exact Fr.n
  | succ n IH => intro v0 v1 v2 v3 h; exact fX3_countOrders_b32 (by omega) hih9 IH h
theorem fX3_countOrders_l32 {k0 : Nat} {k1 : Nat} {ih9 : Int32 → Int32 → Mem → Option (Mem × Unit)} {v0 : Int32} {v1 : Int32} {v2 : Int32} {v3 : Mem} (wk0 : 5 ≤ k0) (hih9 : ∀ (u0 : Int32) (u1 : Int32) (u2 : Mem), KS SA M0 u2 → Fr SA M0 (ih9 u0 u1 u2)) {n : Nat} (h : KS SA M0 v3) : Fr SA M0 (mX3_countOrders_l32 k0 k1 ih9 n v0 v1 v2 v3) := fX3_countOrders_l32_n wk0 hih9 n v0 v1 v2 v3 h
theorem fX3_countOrders_b28 {k0 : Nat} {k1 : Nat} {ih9 : Int32 → Int32 → Mem → Option (Mem × Unit)} {x2 : Int32} {x3 : Int32} {y1 : Int32} {y2 : Int64} {M : Mem} (wk0 : 5 ≤ k0) (hih9 : ∀ (v0 : Int32) (v1 : Int32) (v2 : Mem), KS SA M0 v2 → Fr SA M0 (ih9 v0 v1 v2)) (hM : KS SA M0 M) : Fr SA M0 (mX3_countOrders_b28 k0 k1 ih9 x2 x3 y1 y2 M) := by
  unfold mX3_countOrders_b28
  exact (Fr.k (Fr.bl hM (fun M8 hM8 => (fX3_countOrders_l32 (by first | omega | exact sbv_5) hih9 hM8))))
theorem fX3_countOrders_b9 {k0 : Nat} {k1 : Nat} {ih9 : Int32 → Int32 → Mem → Option (Mem × Unit)} {x2 : Int32} {x3 : Int32} {M : Mem} (wk0 : 5 ≤ k0) (hih9 : ∀ (v0 : Int32) (v1 : Int32) (v2 : Mem), KS SA M0 v2 → Fr SA M0 (ih9 v0 v1 v2)) (hM : KS SA M0 M) : Fr SA M0 (mX3_countOrders_b9 k0 k1 ih9 x2 x3 M) := by
  unfold mX3_countOrders_b9
  exact (Fr.i (Fr.ok hM) (Fr.i (fX3_countOrders_b28 (by first | omega | exact sbv_5) hih9 hM) (fX3_countOrders_b28 (by first | omega | exact sbv_5) hih9 hM)))
theorem fX3_countOrders_l9_n {k0 : Nat} {k1 : Nat} (wk0 : 5 ≤ k0) : ∀ (n : Nat) (v0 : Int32) (v1 : Int32) (v2 : Mem), KS SA M0 v2 → Fr SA M0 (mX3_countOrders_l9 k0 k1 n v0 v1 v2) := by
  intro n
  induction n with
  | zero => intro v0 v1 v2 h; exact Fr.n
  | succ n IH => intro v0 v1 v2 h; exact fX3_countOrders_b9 (by omega) IH h
theorem fX3_countOrders_l9 {k0 : Nat} {k1 : Nat} {v0 : Int32} {v1 : Int32} {v2 : Mem} (wk0 : 5 ≤ k0) {n : Nat} (h : KS SA M0 v2) : Fr SA M0 (mX3_countOrders_l9 k0 k1 n v0 v1 v2) := fX3_countOrders_l9_n wk0  n v0 v1 v2 h
theorem fX3_countOrders {k0 : Nat} {k1 : Nat} {M : Mem} (wk0 : 5 ≤ k0) (hM : KS SA M0 M) : Fr SA M0 (mX3_countOrders k0 k1 M) := by
  unfold mX3_countOrders
  exact (Fr.c (fun r2 => (fX3_countOrders_l9 (by first | omega | exact sbv_5) hM)))
theorem fX3_reckonCostsBehind_b101 {k0 : Nat} {k1 : Nat} {ih2 : Int32 → Int32 → Mem → Option (Mem × Unit)} {x2 : Int32} {x3 : Int32} {M : Mem} (hih2 : ∀ (v0 : Int32) (v1 : Int32) (v2 : Mem), KS SA M0 v2 → Fr SA M0 (ih2 v0 v1 v2)) (hM : KS SA M0 M) : Fr SA M0 (mX3_reckonCostsBehind_b101 k0 k1 ih2 x2 x3 M) := by
  unfold mX3_reckonCostsBehind_b101
  exact (Fr.b (fun x3_101 => (hih2 _ _ _ hM)))
theorem fX3_reckonCostsBehind_b2 {k0 : Nat} {k1 : Nat} {ih2 : Int32 → Int32 → Mem → Option (Mem × Unit)} {x2 : Int32} {x3 : Int32} {M : Mem} (wk0 : 5 ≤ k0) (hih2 : ∀ (v0 : Int32) (v1 : Int32) (v2 : Mem), KS SA M0 v2 → Fr SA M0 (ih2 v0 v1 v2)) (hM : KS SA M0 M) : Fr SA M0 (mX3_reckonCostsBehind_b2 k0 k1 ih2 x2 x3 M) := by
  unfold mX3_reckonCostsBehind_b2
  exact (Fr.i (Fr.ok hM) (Fr.b (fun x4_17 => (Fr.i (fX3_reckonCostsBehind_b101 hih2 hM) (Fr.k (Fr.i (fX3_reckonCostsBehind_b101 hih2 hM) (Fr.c (fun r8 => (Fr.i (fX3_reckonCostsBehind_b101 hih2 hM) (Fr.k (Fr.b (fun x5_57 => (Fr.c (fun r14 => (Fr.k (Fr.bw (show 5 ≤ _ by first | omega | exact sbv_5) hM (fun M18 hM18 => (Fr.c (fun r20 => (Fr.k (Fr.bw (show 5 ≤ _ by first | omega | exact sbv_5) hM18 (fun M24 hM24 => (fX3_reckonCostsBehind_b101 hih2 hM24)))))))))))))))))))))))
theorem fX3_reckonCostsBehind_l2_n {k0 : Nat} {k1 : Nat} (wk0 : 5 ≤ k0) : ∀ (n : Nat) (v0 : Int32) (v1 : Int32) (v2 : Mem), KS SA M0 v2 → Fr SA M0 (mX3_reckonCostsBehind_l2 k0 k1 n v0 v1 v2) := by
  intro n
  induction n with
  | zero => intro v0 v1 v2 h; exact Fr.n
  | succ n IH => intro v0 v1 v2 h; exact fX3_reckonCostsBehind_b2 (by omega) IH h
theorem fX3_reckonCostsBehind_l2 {k0 : Nat} {k1 : Nat} {v0 : Int32} {v1 : Int32} {v2 : Mem} (wk0 : 5 ≤ k0) {n : Nat} (h : KS SA M0 v2) : Fr SA M0 (mX3_reckonCostsBehind_l2 k0 k1 n v0 v1 v2) := fX3_reckonCostsBehind_l2_n wk0  n v0 v1 v2 h
theorem fX3_reckonCostsBehind {k0 : Nat} {k1 : Nat} {x2 : Int32} {M : Mem} (wk0 : 5 ≤ k0) (hM : KS SA M0 M) : Fr SA M0 (mX3_reckonCostsBehind k0 k1 x2 M) := by
  unfold mX3_reckonCostsBehind
  exact (fX3_reckonCostsBehind_l2 (by first | omega | exact sbv_5) hM)
theorem fX3_reckonCosts_b27 {k0 : Nat} {k1 : Nat} {ih4 : Int32 → Mem → Option (Mem × Unit)} {x2 : Int32} {M : Mem} (hih4 : ∀ (v0 : Int32) (v1 : Mem), KS SA M0 v1 → Fr SA M0 (ih4 v0 v1)) (hM : KS SA M0 M) : Fr SA M0 (mX3_reckonCosts_b27 k0 k1 ih4 x2 M) := by
  unfold mX3_reckonCosts_b27
  exact (Fr.b (fun x2_27 => (hih4 _ _ hM)))
theorem fX3_reckonCosts_b4 {k0 : Nat} {k1 : Nat} {ih4 : Int32 → Mem → Option (Mem × Unit)} {x2 : Int32} {M : Mem} (wk0 : 5 ≤ k0) (hih4 : ∀ (v0 : Int32) (v1 : Mem), KS SA M0 v1 → Fr SA M0 (ih4 v0 v1)) (hM : KS SA M0 M) : Fr SA M0 (mX3_reckonCosts_b4 k0 k1 ih4 x2 M) := by
  unfold mX3_reckonCosts_b4
  exact (Fr.i (Fr.c (fun r3 => (Fr.c (fun r6 => (Fr.c (fun r9 => (Fr.bw (show 5 ≤ _ by first | omega | exact sbv_5) hM (fun M11 hM11 => (Fr.c (fun r14 => (Fr.c (fun r17 => (Fr.c (fun r20 => (Fr.bw (show 5 ≤ _ by first | omega | exact sbv_5) hM11 (fun M22 hM22 => (Fr.ok hM22))))))))))))))))) (Fr.k (Fr.i (fX3_reckonCosts_b27 hih4 hM) (Fr.m (fX3_reckonCostsBehind (by first | omega | exact sbv_5) hM) (fun M29 _ hM29 => (fX3_reckonCosts_b27 hih4 hM29))))))
theorem fX3_reckonCosts_l4_n {k0 : Nat} {k1 : Nat} (wk0 : 5 ≤ k0) : ∀ (n : Nat) (v0 : Int32) (v1 : Mem), KS SA M0 v1 → Fr SA M0 (mX3_reckonCosts_l4 k0 k1 n v0 v1) := by
  intro n
  induction n with
  | zero => intro v0 v1 h; exact Fr.n
  | succ n IH => intro v0 v1 h; exact fX3_reckonCosts_b4 (by omega) IH h
theorem fX3_reckonCosts_l4 {k0 : Nat} {k1 : Nat} {v0 : Int32} {v1 : Mem} (wk0 : 5 ≤ k0) {n : Nat} (h : KS SA M0 v1) : Fr SA M0 (mX3_reckonCosts_l4 k0 k1 n v0 v1) := fX3_reckonCosts_l4_n wk0  n v0 v1 h
theorem fX3_reckonCosts {k0 : Nat} {k1 : Nat} {M : Mem} (wk0 : 5 ≤ k0) (hM : KS SA M0 M) : Fr SA M0 (mX3_reckonCosts k0 k1 M) := by
  unfold mX3_reckonCosts
  exact (fX3_reckonCosts_l4 (by first | omega | exact sbv_5) hM)
theorem fX3_choosePlan_b127 {k0 : Nat} {k1 : Nat} {ih40 : Int32 → Int32 → Int32 → Int32 → Int32 → Mem → Option (Mem × Unit)} {x2 : Int32} {x3 : Int32} {x4 : Int32} {x5 : Int32} {x6 : Int32} {M : Mem} (hih40 : ∀ (v0 : Int32) (v1 : Int32) (v2 : Int32) (v3 : Int32) (v4 : Int32) (v5 : Mem), KS SA M0 v5 → Fr SA M0 (ih40 v0 v1 v2 v3 v4 v5)) (hM : KS SA M0 M) : Fr SA M0 (mX3_choosePlan_b127 k0 k1 ih40 x2 x3 x4 x5 x6 M) := by
  unfold mX3_choosePlan_b127
  exact (Fr.b (fun x6_127 => (hih40 _ _ _ _ _ _ hM)))
theorem fX3_choosePlan_b40 {k0 : Nat} {k1 : Nat} {ih40 : Int32 → Int32 → Int32 → Int32 → Int32 → Mem → Option (Mem × Unit)} {x2 : Int32} {x3 : Int32} {x4 : Int32} {x5 : Int32} {x6 : Int32} {M : Mem} (wk0 : 5 ≤ k0) (hih40 : ∀ (v0 : Int32) (v1 : Int32) (v2 : Int32) (v3 : Int32) (v4 : Int32) (v5 : Mem), KS SA M0 v5 → Fr SA M0 (ih40 v0 v1 v2 v3 v4 v5)) (hM : KS SA M0 M) : Fr SA M0 (mX3_choosePlan_b40 k0 k1 ih40 x2 x3 x4 x5 x6 M) := by
  unfold mX3_choosePlan_b40
  exact (Fr.i (Fr.ok hM) (Fr.i (Fr.ok hM) (Fr.c (fun r15 => (Fr.i (fX3_choosePlan_b127 hih40 hM) (Fr.k (Fr.bw (show 5 ≤ _ by first | omega | exact sbv_5) hM (fun M21 hM21 => (Fr.bw (show 5 ≤ _ by first | omega | exact sbv_5) hM21 (fun M22 hM22 => (Fr.k (Fr.b (fun x4_104 => (Fr.c (fun r27 => (Fr.k (Fr.b (fun x5_125 => (fX3_choosePlan_b127 hih40 hM22)))))))))))))))))))
theorem fX3_choosePlan_l40_n {k0 : Nat} {k1 : Nat} (wk0 : 5 ≤ k0) : ∀ (n : Nat) (v0 : Int32) (v1 : Int32) (v2 : Int32) (v3 : Int32) (v4 : Int32) (v5 : Mem), KS SA M0 v5 → Fr SA M0 (mX3_choosePlan_l40 k0 k1 n v0 v1 v2 v3 v4 v5) := by
  intro n
  induction n with
  | zero => intro v0 v1 v2 v3 v4 v5 h; exact Fr.n
  | succ n IH => intro v0 v1 v2 v3 v4 v5 h; exact fX3_choosePlan_b40 (by omega) IH h
theorem fX3_choosePlan_l40 {k0 : Nat} {k1 : Nat} {v0 : Int32} {v1 : Int32} {v2 : Int32} {v3 : Int32} {v4 : Int32} {v5 : Mem} (wk0 : 5 ≤ k0) {n : Nat} (h : KS SA M0 v5) : Fr SA M0 (mX3_choosePlan_l40 k0 k1 n v0 v1 v2 v3 v4 v5) := fX3_choosePlan_l40_n wk0  n v0 v1 v2 v3 v4 v5 h
theorem fX3_choosePlan_b34 {k0 : Nat} {k1 : Nat} {x2 : Int32} {x3 : Int32} {x4 : Int32} {x5 : Int32} {y1 : Int32} {M : Mem} (wk0 : 5 ≤ k0) (hM : KS SA M0 M) : Fr SA M0 (mX3_choosePlan_b34 k0 k1 x2 x3 x4 x5 y1 M) := by
  unfold mX3_choosePlan_b34
  exact (Fr.bw (show 5 ≤ _ by first | omega | exact sbv_5) hM (fun M10 hM10 => (fX3_choosePlan_l40 (by first | omega | exact sbv_5) hM10)))
theorem fX3_choosePlan {k0 : Nat} {k1 : Nat} {M : Mem} (wk0 : 5 ≤ k0) (hM : KS SA M0 M) : Fr SA M0 (mX3_choosePlan k0 k1 M) := by
  unfold mX3_choosePlan
  exact (Fr.b (fun x2_4 => (Fr.c (fun r3 => (Fr.c (fun r6 => (Fr.b (fun x5_20 => (Fr.i (fX3_choosePlan_b34 (by first | omega | exact sbv_5) hM) (fX3_choosePlan_b34 (by first | omega | exact sbv_5) hM))))))))))
theorem fX3_prepare_b30 {k0 : Nat} {k1 : Nat} {M : Mem} (wk0 : 5 ≤ k0) (hM : KS SA M0 M) : Fr SA M0 (mX3_prepare_b30 k0 k1 M) := by
  unfold mX3_prepare_b30
  exact (Fr.m (fX3_reachSets (by first | omega | exact sbv_5) hM) (fun M4 _ hM4 => (Fr.m (fX3_countOrders (by first | omega | exact sbv_5) hM4) (fun M7 _ hM7 => (Fr.m (fX3_reckonCosts (by first | omega | exact sbv_5) hM7) (fun M10 _ hM10 => (Fr.m (fX3_choosePlan (by first | omega | exact sbv_5) hM10) (fun M13 _ hM13 => (Fr.bw (show 5 ≤ _ by first | omega | exact sbv_5) hM13 (fun M14 hM14 => (Fr.ok hM14)))))))))))
theorem fX3_prepare {k0 : Nat} {k1 : Nat} {M : Mem} (wk0 : 5 ≤ k0) (hM : KS SA M0 M) : Fr SA M0 (mX3_prepare k0 k1 M) := by
  unfold mX3_prepare
  exact (Fr.i (fX3_prepare_b30 (by first | omega | exact sbv_5) hM) (Fr.c (fun r17 => (Fr.i (fX3_prepare_b30 (by first | omega | exact sbv_5) hM) (Fr.c (fun r21 => (Fr.i (fX3_prepare_b30 (by first | omega | exact sbv_5) hM) (Fr.ok hM))))))))
theorem fX3_reachesAll {k0 : Nat} {k1 : Nat} {M : Mem} (wk0 : 5 ≤ k0) (hM : KS SA M0 M) : Fr SA M0 (mX3_reachesAll k0 k1 M) := by
  unfold mX3_reachesAll
  exact (Fr.m (fX3_reachSets (by first | omega | exact sbv_5) hM) (fun M3 _ hM3 => (Fr.c (fun r5 => (Fr.k (Fr.k (Fr.ok hM3)))))))
theorem fX0_forgetAll {k0 : Nat} {M : Mem} (wk0 : 5 ≤ k0) (hM : KS SA M0 M) : Fr SA M0 (mX0_forgetAll k0 M) := by
  unfold mX0_forgetAll
  exact (Fr.bw (show 5 ≤ _ by first | omega | exact sbv_5) hM (fun M1 hM1 => (Fr.ok hM1)))
theorem fX0_remember_b32 {k0 : Nat} {k1 : Nat} {M : Mem} (wk0 : 5 ≤ k0) (hM : KS SA M0 M) : Fr SA M0 (mX0_remember_b32 k0 k1 M) := by
  unfold mX0_remember_b32
  exact (Fr.k (Fr.m (fX1_copyFrom (by first | omega | exact sbv_5) hM) (fun M5 _ hM5 => (Fr.bw (show 5 ≤ _ by first | omega | exact sbv_5) hM5 (fun M6 hM6 => (Fr.ok hM6))))))
theorem fX0_remember {k0 : Nat} {k1 : Nat} {M : Mem} (wk0 : 5 ≤ k0) (hM : KS SA M0 M) : Fr SA M0 (mX0_remember k0 k1 M) := by
  unfold mX0_remember
  exact (Fr.i (Fr.bw (show 5 ≤ _ by first | omega | exact sbv_5) hM (fun M8 hM8 => (Fr.bw (show 5 ≤ _ by first | omega | exact sbv_5) hM8 (fun M10 hM10 => (fX0_remember_b32 (by first | omega | exact sbv_5) hM10))))) (fX0_remember_b32 (by first | omega | exact sbv_5) hM))
theorem fX0_takeBack {k0 : Nat} {k1 : Nat} {M : Mem} (wk0 : 5 ≤ k0) (wk1 : 5 ≤ k1) (hM : KS SA M0 M) : Fr SA M0 (mX0_takeBack k0 k1 M) := by
  unfold mX0_takeBack
  exact (Fr.i (Fr.ok hM) (Fr.bw (show 5 ≤ _ by first | omega | exact sbv_5) hM (fun M2 hM2 => (Fr.k (Fr.m (fX1_copyFrom (by first | omega | exact sbv_5) hM2) (fun M7 _ hM7 => (Fr.ok hM7)))))))
theorem fX6_requireLeg_b21 {k0 : Nat} {M : Mem} (hM : KS SA M0 M) : Fr SA M0 (mX6_requireLeg_b21 k0 M) := by
  unfold mX6_requireLeg_b21
  exact (Fr.ok hM)
theorem fX6_requireLeg {k0 : Nat} {x1 : Int32} {M : Mem} (hM : KS SA M0 M) : Fr SA M0 (mX6_requireLeg k0 x1 M) := by
  unfold mX6_requireLeg
  exact (Fr.i (fX6_requireLeg_b21 hM) (Fr.i (fX6_requireLeg_b21 hM) (Fr.i (Fr.ok hM) (fX6_requireLeg_b21 hM))))
theorem fX6_leg {k0 : Nat} {x1 : Int32} {M : Mem} (hM : KS SA M0 M) : Fr SA M0 (mX6_leg k0 x1 M) := by
  unfold mX6_leg
  exact (Fr.x (fX6_requireLeg hM) (fun M3 _ hM3 => (Fr.k (Fr.ok hM3))))
theorem fX6_requireBend_b21 {k0 : Nat} {M : Mem} (hM : KS SA M0 M) : Fr SA M0 (mX6_requireBend_b21 k0 M) := by
  unfold mX6_requireBend_b21
  exact (Fr.ok hM)
theorem fX6_requireBend {k0 : Nat} {x1 : Int32} {M : Mem} (hM : KS SA M0 M) : Fr SA M0 (mX6_requireBend k0 x1 M) := by
  unfold mX6_requireBend
  exact (Fr.i (fX6_requireBend_b21 hM) (Fr.c (fun r3 => (Fr.i (fX6_requireBend_b21 hM) (Fr.i (Fr.ok hM) (fX6_requireBend_b21 hM))))))
theorem fX6_isUp {k0 : Nat} {x1 : Int32} {M : Mem} (hM : KS SA M0 M) : Fr SA M0 (mX6_isUp k0 x1 M) := by
  unfold mX6_isUp
  exact (Fr.x (fX6_requireBend hM) (fun M3 _ hM3 => (Fr.c (fun r6 => (Fr.k (Fr.ok hM3))))))
theorem fX6_linePlace {k0 : Nat} {x1 : Int32} {M : Mem} (hM : KS SA M0 M) : Fr SA M0 (mX6_linePlace k0 x1 M) := by
  unfold mX6_linePlace
  exact (Fr.x (fX6_requireBend hM) (fun M3 _ hM3 => (Fr.c (fun r6 => (Fr.k (Fr.c (fun r10 => (Fr.k (Fr.k (Fr.ok hM3))))))))))
theorem fX6_springBackFor_b19 {k0 : Nat} {x1 : UInt64} {y0 : Int32} {M : Mem} (hM : KS SA M0 M) : Fr SA M0 (mX6_springBackFor_b19 k0 x1 y0 M) := by
  unfold mX6_springBackFor_b19
  exact (Fr.i (Fr.ok hM) (Fr.c (fun r4 => (Fr.ok hM))))
theorem fX6_springBackFor_b18 {k0 : Nat} {x1 : UInt64} {M : Mem} (hM : KS SA M0 M) : Fr SA M0 (mX6_springBackFor_b18 k0 x1 M) := by
  unfold mX6_springBackFor_b18
  exact (fX6_springBackFor_b19 hM)
theorem fX6_springBackFor {k0 : Nat} {x1 : UInt64} {M : Mem} (hM : KS SA M0 M) : Fr SA M0 (mX6_springBackFor k0 x1 M) := by
  unfold mX6_springBackFor
  exact (Fr.i (fX6_springBackFor_b18 hM) (Fr.i (fX6_springBackFor_b18 hM) (fX6_springBackFor_b19 hM)))
theorem fX6_tool_b21 {k0 : Nat} {M : Mem} (hM : KS SA M0 M) : Fr SA M0 (mX6_tool_b21 k0 M) := by
  unfold mX6_tool_b21
  exact (Fr.ok hM)
theorem fX6_tool {k0 : Nat} {x1 : Int32} {x2 : Int32} {M : Mem} (hM : KS SA M0 M) : Fr SA M0 (mX6_tool k0 x1 x2 M) := by
  unfold mX6_tool
  exact (Fr.c (fun r2 => (Fr.o (fX6_tool_b21 hM) (fun w4 => (Fr.k (Fr.i (fX6_tool_b21 hM) (Fr.c (fun r8 => (Fr.i (Fr.k (Fr.ok hM)) (fX6_tool_b21 hM))))))))))
theorem fX6_finishedWidth {k0 : Nat} {M : Mem} (hM : KS SA M0 M) : Fr SA M0 (mX6_finishedWidth k0 M) := by
  unfold mX6_finishedWidth
  exact (Fr.m (fX2_layFinished (by first | omega | exact sbv_5) hM) (fun M3 _ hM3 => (Fr.c (fun r5 => (Fr.ok hM3)))))
theorem fX6_finishedHeight {k0 : Nat} {M : Mem} (hM : KS SA M0 M) : Fr SA M0 (mX6_finishedHeight k0 M) := by
  unfold mX6_finishedHeight
  exact (Fr.m (fX2_layFinished (by first | omega | exact sbv_5) hM) (fun M3 _ hM3 => (Fr.c (fun r5 => (Fr.ok hM3)))))
theorem fX6_isFinishedCrossed {k0 : Nat} {M : Mem} (hM : KS SA M0 M) : Fr SA M0 (mX6_isFinishedCrossed k0 M) := by
  unfold mX6_isFinishedCrossed
  exact (Fr.m (fX2_layFinished (by first | omega | exact sbv_5) hM) (fun M3 _ hM3 => (Fr.c (fun r5 => (Fr.k (Fr.ok hM3))))))
theorem fX6_requireChoice_b9 {M : Mem} (hM : KS SA M0 M) : Fr SA M0 (mX6_requireChoice_b9 M) := by
  unfold mX6_requireChoice_b9
  exact (Fr.ok hM)
theorem fX6_requireChoice {x0 : Int32} {x1 : Int32} {M : Mem} (hM : KS SA M0 M) : Fr SA M0 (mX6_requireChoice x0 x1 M) := by
  unfold mX6_requireChoice
  exact (Fr.i (fX6_requireChoice_b9 hM) (Fr.i (Fr.ok hM) (fX6_requireChoice_b9 hM)))
theorem fX6_finishedCorner {k0 : Nat} {x1 : Int32} {x2 : Int32} {M : Mem} (hM : KS SA M0 M) : Fr SA M0 (mX6_finishedCorner k0 x1 x2 M) := by
  unfold mX6_finishedCorner
  exact (Fr.x (fX6_requireLeg hM) (fun M3 _ hM3 => (Fr.x (fX6_requireChoice hM3) (fun M7 _ hM7 => (Fr.m (fX2_layFinished (by first | omega | exact sbv_5) hM7) (fun M11 _ hM11 => (Fr.i (Fr.k (Fr.ok hM11)) (Fr.k (Fr.ok hM11)))))))))
theorem fX6_step_b21 {k0 : Nat} {M : Mem} (hM : KS SA M0 M) : Fr SA M0 (mX6_step_b21 k0 M) := by
  unfold mX6_step_b21
  exact (Fr.ok hM)
theorem fX6_step {k0 : Nat} {x1 : Int32} {x2 : Int32} {M : Mem} (hM : KS SA M0 M) : Fr SA M0 (mX6_step k0 x1 x2 M) := by
  unfold mX6_step
  exact (Fr.i (fX6_step_b21 hM) (Fr.i (fX6_step_b21 hM) (Fr.i (Fr.x (fX6_requireChoice hM) (fun M6 _ hM6 => (Fr.i (Fr.k (Fr.ok hM6)) (Fr.i (Fr.k (Fr.ok hM6)) (Fr.i (Fr.k (Fr.ok hM6)) (Fr.k (Fr.ok hM6))))))) (fX6_step_b21 hM))))
theorem fX6_requireStep {k0 : Nat} {x1 : Int32} {x2 : Int32} {M : Mem} (hM : KS SA M0 M) : Fr SA M0 (mX6_requireStep k0 x1 x2 M) := by
  unfold mX6_requireStep
  exact (Fr.x (fX6_requireBend hM) (fun M3 _ hM3 => (Fr.x (fX6_requireChoice hM3) (fun M7 _ hM7 => (Fr.ok hM7)))))
theorem fX6_reasonNow {k0 : Nat} {x1 : Int32} {M : Mem} (hM : KS SA M0 M) : Fr SA M0 (mX6_reasonNow k0 x1 M) := by
  unfold mX6_reasonNow
  exact (Fr.m (fX2_reasonFor (by first | omega | exact sbv_5) hM) (fun M3 r2 hM3 => (Fr.ok hM3)))
theorem fX6_reason {k0 : Nat} {x1 : Int32} {x2 : Int32} {M : Mem} (hM : KS SA M0 M) : Fr SA M0 (mX6_reason k0 x1 x2 M) := by
  unfold mX6_reason
  exact (Fr.x (fX6_requireStep hM) (fun M3 _ hM3 => (Fr.m (fX6_reasonNow hM3) (fun M7 r6 hM7 => (Fr.ok hM7)))))
theorem fX6_gaugeNow {k0 : Nat} {x1 : Int32} {M : Mem} (hM : KS SA M0 M) : Fr SA M0 (mX6_gaugeNow k0 x1 M) := by
  unfold mX6_gaugeNow
  exact (Fr.m (fX2_layStep (by first | omega | exact sbv_5) hM) (fun M3 _ hM3 => (Fr.c (fun r5 => (Fr.ok hM3)))))
theorem fX6_gauge {k0 : Nat} {x1 : Int32} {x2 : Int32} {M : Mem} (hM : KS SA M0 M) : Fr SA M0 (mX6_gauge k0 x1 x2 M) := by
  unfold mX6_gauge
  exact (Fr.x (fX6_requireStep hM) (fun M3 _ hM3 => (Fr.m (fX6_gaugeNow hM3) (fun M7 r6 hM7 => (Fr.ok hM7)))))
theorem fX6_corner {k0 : Nat} {x1 : Int32} {x2 : Int32} {x3 : Int32} {x4 : Int32} {M : Mem} (hM : KS SA M0 M) : Fr SA M0 (mX6_corner k0 x1 x2 x3 x4 M) := by
  unfold mX6_corner
  exact (Fr.x (fX6_requireBend hM) (fun M3 _ hM3 => (Fr.x (fX6_requireLeg hM3) (fun M7 _ hM7 => (Fr.x (fX6_requireChoice hM7) (fun M11 _ hM11 => (Fr.x (fX6_requireChoice hM11) (fun M15 _ hM15 => (Fr.m (fX2_layStep (by first | omega | exact sbv_5) hM15) (fun M19 _ hM19 => (Fr.i (Fr.k (Fr.ok hM19)) (Fr.k (Fr.ok hM19)))))))))))))
theorem fX6_top {k0 : Nat} {x1 : Int32} {x2 : Int32} {M : Mem} (hM : KS SA M0 M) : Fr SA M0 (mX6_top k0 x1 x2 M) := by
  unfold mX6_top
  exact (Fr.x (fX6_requireStep hM) (fun M3 _ hM3 => (Fr.m (fX2_layStep (by first | omega | exact sbv_5) hM3) (fun M7 _ hM7 => (Fr.c (fun r9 => (Fr.ok hM7)))))))
theorem fX6_hitting {k0 : Nat} {x1 : Int32} {x2 : Int32} {M : Mem} (hM : KS SA M0 M) : Fr SA M0 (mX6_hitting k0 x1 x2 M) := by
  unfold mX6_hitting
  exact (Fr.x (fX6_requireStep hM) (fun M3 _ hM3 => (Fr.m (fX2_layStep (by first | omega | exact sbv_5) hM3) (fun M7 _ hM7 => (Fr.c (fun r9 => (Fr.ok hM7)))))))
theorem fX6_refused_b11 {k0 : Nat} {M : Mem} (hM : KS SA M0 M) : Fr SA M0 (mX6_refused_b11 k0 M) := by
  unfold mX6_refused_b11
  exact (Fr.ok hM)
theorem fX6_refused_b50 {k0 : Nat} {ih25 : Int32 → Int32 → Int32 → Mem → Option (Mem × (Int32 ⊕ Nat))} {x1 : Int32} {x2 : Int32} {x3 : Int32} {M : Mem} (hih25 : ∀ (v0 : Int32) (v1 : Int32) (v2 : Int32) (v3 : Mem), KS SA M0 v3 → Fr SA M0 (ih25 v0 v1 v2 v3)) (hM : KS SA M0 M) : Fr SA M0 (mX6_refused_b50 k0 ih25 x1 x2 x3 M) := by
  unfold mX6_refused_b50
  exact (Fr.b (fun x3_50 => (hih25 _ _ _ _ hM)))
theorem fX6_refused_b25 {k0 : Nat} {ih25 : Int32 → Int32 → Int32 → Mem → Option (Mem × (Int32 ⊕ Nat))} {x1 : Int32} {x2 : Int32} {x3 : Int32} {M : Mem} (hih25 : ∀ (v0 : Int32) (v1 : Int32) (v2 : Int32) (v3 : Mem), KS SA M0 v3 → Fr SA M0 (ih25 v0 v1 v2 v3)) (hM : KS SA M0 M) : Fr SA M0 (mX6_refused_b25 k0 ih25 x1 x2 x3 M) := by
  unfold mX6_refused_b25
  exact (Fr.c (fun r4 => (Fr.i (Fr.ok hM) (Fr.m (fX6_reasonNow hM) (fun M9 r8 hM9 => (Fr.i (Fr.b (fun x2_47 => (fX6_refused_b50 hih25 hM9))) (fX6_refused_b50 hih25 hM9)))))))
theorem fX6_refused_l25_n {k0 : Nat} : ∀ (n : Nat) (v0 : Int32) (v1 : Int32) (v2 : Int32) (v3 : Mem), KS SA M0 v3 → Fr SA M0 (mX6_refused_l25 k0 n v0 v1 v2 v3) := by
  intro n
  induction n with
  | zero => intro v0 v1 v2 v3 h; exact Fr.n
  | succ n IH => intro v0 v1 v2 v3 h; exact fX6_refused_b25  IH h
theorem fX6_refused_l25 {k0 : Nat} {v0 : Int32} {v1 : Int32} {v2 : Int32} {v3 : Mem} {n : Nat} (h : KS SA M0 v3) : Fr SA M0 (mX6_refused_l25 k0 n v0 v1 v2 v3) := fX6_refused_l25_n   n v0 v1 v2 v3 h
theorem fX6_refused {k0 : Nat} {x1 : Int32} {M : Mem} (hM : KS SA M0 M) : Fr SA M0 (mX6_refused k0 x1 M) := by
  unfold mX6_refused
  exact (Fr.i (fX6_refused_b11 hM) (Fr.i (fX6_refused_l25 hM) (fX6_refused_b11 hM)))
theorem fX6_possible {k0 : Nat} {M : Mem} (hM : KS SA M0 M) : Fr SA M0 (mX6_possible k0 M) := by
  unfold mX6_possible
  exact (Fr.m (fX2_possibleSteps (by first | omega | exact sbv_5) hM) (fun M3 r2 hM3 => (Fr.ok hM3)))
theorem fX6_stuck_b73 {k0 : Nat} {ih23 : Int32 → Int32 → Int32 → Mem → Option (Mem × Int32)} {x1 : Int32} {x2 : Int32} {x3 : Int32} {M : Mem} (hih23 : ∀ (v0 : Int32) (v1 : Int32) (v2 : Int32) (v3 : Mem), KS SA M0 v3 → Fr SA M0 (ih23 v0 v1 v2 v3)) (hM : KS SA M0 M) : Fr SA M0 (mX6_stuck_b73 k0 ih23 x1 x2 x3 M) := by
  unfold mX6_stuck_b73
  exact (Fr.b (fun x3_73 => (hih23 _ _ _ _ hM)))
theorem fX6_stuck_b53 {k0 : Nat} {ih23 : Int32 → Int32 → Int32 → Mem → Option (Mem × Int32)} {x1 : Int32} {x2 : Int32} {x3 : Int32} {y0 : Int32} {M : Mem} (hih23 : ∀ (v0 : Int32) (v1 : Int32) (v2 : Int32) (v3 : Mem), KS SA M0 v3 → Fr SA M0 (ih23 v0 v1 v2 v3)) (hM : KS SA M0 M) : Fr SA M0 (mX6_stuck_b53 k0 ih23 x1 x2 x3 y0 M) := by
  unfold mX6_stuck_b53
  exact (Fr.i (Fr.i (Fr.b (fun x2_70 => (fX6_stuck_b73 hih23 hM))) (fX6_stuck_b73 hih23 hM)) (fX6_stuck_b73 hih23 hM))
theorem fX6_stuck_b23 {k0 : Nat} {ih23 : Int32 → Int32 → Int32 → Mem → Option (Mem × Int32)} {x1 : Int32} {x2 : Int32} {x3 : Int32} {M : Mem} (hih23 : ∀ (v0 : Int32) (v1 : Int32) (v2 : Int32) (v3 : Mem), KS SA M0 v3 → Fr SA M0 (ih23 v0 v1 v2 v3)) (hM : KS SA M0 M) : Fr SA M0 (mX6_stuck_b23 k0 ih23 x1 x2 x3 M) := by
  unfold mX6_stuck_b23
  exact (Fr.c (fun r5 => (Fr.i (Fr.ok hM) (Fr.i (fX6_stuck_b53 hih23 hM) (fX6_stuck_b53 hih23 hM)))))
theorem fX6_stuck_l23_n {k0 : Nat} : ∀ (n : Nat) (v0 : Int32) (v1 : Int32) (v2 : Int32) (v3 : Mem), KS SA M0 v3 → Fr SA M0 (mX6_stuck_l23 k0 n v0 v1 v2 v3) := by
  intro n
  induction n with
  | zero => intro v0 v1 v2 v3 h; exact Fr.n
  | succ n IH => intro v0 v1 v2 v3 h; exact fX6_stuck_b23  IH h
theorem fX6_stuck_l23 {k0 : Nat} {v0 : Int32} {v1 : Int32} {v2 : Int32} {v3 : Mem} {n : Nat} (h : KS SA M0 v3) : Fr SA M0 (mX6_stuck_l23 k0 n v0 v1 v2 v3) := fX6_stuck_l23_n   n v0 v1 v2 v3 h
theorem fX6_stuck {k0 : Nat} {M : Mem} (hM : KS SA M0 M) : Fr SA M0 (mX6_stuck k0 M) := by
  unfold mX6_stuck
  exact (Fr.m (fX2_possibleSteps (by first | omega | exact sbv_5) hM) (fun M3 r2 hM3 => (fX6_stuck_l23 hM3)))
theorem fX6_costNow {k0 : Nat} {x1 : Int32} {M : Mem} (hM : KS SA M0 M) : Fr SA M0 (mX6_costNow k0 x1 M) := by
  unfold mX6_costNow
  exact (Fr.c (fun r2 => (Fr.c (fun r5 => (Fr.m (fX6_gaugeNow hM) (fun M9 r8 hM9 => (Fr.c (fun r11 => (Fr.ok hM9)))))))))
theorem fX6_costOf {k0 : Nat} {x1 : Int32} {x2 : Int32} {M : Mem} (hM : KS SA M0 M) : Fr SA M0 (mX6_costOf k0 x1 x2 M) := by
  unfold mX6_costOf
  exact (Fr.x (fX6_requireStep hM) (fun M3 _ hM3 => (Fr.m (fX6_costNow hM3) (fun M7 r6 hM7 => (Fr.ok hM7)))))
theorem fX6_orders {k0 : Nat} {M : Mem} (hM : KS SA M0 M) : Fr SA M0 (mX6_orders k0 M) := by
  unfold mX6_orders
  exact (Fr.m (fX3_prepare (by first | omega | exact sbv_5) hM) (fun M3 _ hM3 => (Fr.c (fun r5 => (Fr.ok hM3)))))
theorem fX6_leastCost {k0 : Nat} {M : Mem} (hM : KS SA M0 M) : Fr SA M0 (mX6_leastCost k0 M) := by
  unfold mX6_leastCost
  exact (Fr.m (fX3_prepare (by first | omega | exact sbv_5) hM) (fun M3 _ hM3 => (Fr.ok hM3)))
theorem fX6_plannedSteps {k0 : Nat} {M : Mem} (hM : KS SA M0 M) : Fr SA M0 (mX6_plannedSteps k0 M) := by
  unfold mX6_plannedSteps
  exact (Fr.m (fX3_prepare (by first | omega | exact sbv_5) hM) (fun M3 _ hM3 => (Fr.ok hM3)))
theorem fX6_planned_b32 {k0 : Nat} {M : Mem} (hM : KS SA M0 M) : Fr SA M0 (mX6_planned_b32 k0 M) := by
  unfold mX6_planned_b32
  exact (Fr.ok hM)
theorem fX6_planned {k0 : Nat} {x1 : Int32} {M : Mem} (hM : KS SA M0 M) : Fr SA M0 (mX6_planned k0 x1 M) := by
  unfold mX6_planned
  exact (Fr.m (fX3_prepare (by first | omega | exact sbv_5) hM) (fun M3 _ hM3 => (Fr.i (fX6_planned_b32 hM3) (Fr.i (fX6_planned_b32 hM3) (Fr.i (Fr.k (Fr.ok hM3)) (fX6_planned_b32 hM3))))))
theorem fX6_greatestCost {k0 : Nat} {M : Mem} (hM : KS SA M0 M) : Fr SA M0 (mX6_greatestCost k0 M) := by
  unfold mX6_greatestCost
  exact (Fr.m (fX3_prepare (by first | omega | exact sbv_5) hM) (fun M3 _ hM3 => (Fr.ok hM3)))
theorem fX6_ordersWith {k0 : Nat} {x1 : Int32} {x2 : Int32} {M : Mem} (hM : KS SA M0 M) : Fr SA M0 (mX6_ordersWith k0 x1 x2 M) := by
  unfold mX6_ordersWith
  exact (Fr.x (fX6_requireStep hM) (fun M3 _ hM3 => (Fr.m (fX6_reasonNow hM3) (fun M7 r6 hM7 => (Fr.i (Fr.m (fX3_prepare (by first | omega | exact sbv_5) hM7) (fun M11 _ hM11 => (Fr.c (fun r13 => (Fr.ok hM11))))) (Fr.ok hM7))))))
theorem fX6_lastSteps {k0 : Nat} {M : Mem} (hM : KS SA M0 M) : Fr SA M0 (mX6_lastSteps k0 M) := by
  unfold mX6_lastSteps
  exact (Fr.m (fX3_prepare (by first | omega | exact sbv_5) hM) (fun M3 _ hM3 => (Fr.c (fun r5 => (Fr.ok hM3)))))
theorem fX6_mostBends {k0 : Nat} {M : Mem} (hM : KS SA M0 M) : Fr SA M0 (mX6_mostBends k0 M) := by
  unfold mX6_mostBends
  exact (Fr.m (fX3_prepare (by first | omega | exact sbv_5) hM) (fun M3 _ hM3 => (Fr.c (fun r5 => (Fr.ok hM3)))))
theorem fX6_greatestBeam_b59 {k0 : Nat} {ih16 : Int32 → Int32 → Mem → Option (Mem × Int32)} {x1 : Int32} {x2 : Int32} {M : Mem} (hih16 : ∀ (v0 : Int32) (v1 : Int32) (v2 : Mem), KS SA M0 v2 → Fr SA M0 (ih16 v0 v1 v2)) (hM : KS SA M0 M) : Fr SA M0 (mX6_greatestBeam_b59 k0 ih16 x1 x2 M) := by
  unfold mX6_greatestBeam_b59
  exact (Fr.b (fun x2_62 => (hih16 _ _ _ hM)))
theorem fX6_greatestBeam_b16 {k0 : Nat} {ih16 : Int32 → Int32 → Mem → Option (Mem × Int32)} {x1 : Int32} {x2 : Int32} {M : Mem} (hih16 : ∀ (v0 : Int32) (v1 : Int32) (v2 : Mem), KS SA M0 v2 → Fr SA M0 (ih16 v0 v1 v2)) (hM : KS SA M0 M) : Fr SA M0 (mX6_greatestBeam_b16 k0 ih16 x1 x2 M) := by
  unfold mX6_greatestBeam_b16
  exact (Fr.i (Fr.i (Fr.ok hM) (Fr.ok hM)) (Fr.b (fun x3_23 => (Fr.k (Fr.bw (show 5 ≤ _ by first | omega | exact sbv_5) hM (fun M9 hM9 => (Fr.i (fX6_greatestBeam_b59 hih16 hM9) (Fr.m (fX3_reachesAll (by first | omega | exact sbv_5) hM9) (fun M14 r13 hM14 => (Fr.i (fX6_greatestBeam_b59 hih16 hM14) (fX6_greatestBeam_b59 hih16 hM14)))))))))))
theorem fX6_greatestBeam_l16_n {k0 : Nat} : ∀ (n : Nat) (v0 : Int32) (v1 : Int32) (v2 : Mem), KS SA M0 v2 → Fr SA M0 (mX6_greatestBeam_l16 k0 n v0 v1 v2) := by
  intro n
  induction n with
  | zero => intro v0 v1 v2 h; exact Fr.n
  | succ n IH => intro v0 v1 v2 h; exact fX6_greatestBeam_b16  IH h
theorem fX6_greatestBeam_l16 {k0 : Nat} {v0 : Int32} {v1 : Int32} {v2 : Mem} {n : Nat} (h : KS SA M0 v2) : Fr SA M0 (mX6_greatestBeam_l16 k0 n v0 v1 v2) := fX6_greatestBeam_l16_n   n v0 v1 v2 h
theorem fX6_greatestBeam {k0 : Nat} {M : Mem} (hM : KS SA M0 M) : Fr SA M0 (mX6_greatestBeam k0 M) := by
  unfold mX6_greatestBeam
  exact (Fr.m (fX1_copyFrom (by first | omega | exact sbv_5) hM) (fun M3 _ hM3 => (fX6_greatestBeam_l16 hM3)))
theorem fX6_requireFlat {k0 : Nat} {M : Mem} (hM : KS SA M0 M) : Fr SA M0 (mX6_requireFlat k0 M) := by
  unfold mX6_requireFlat
  exact (Fr.i (Fr.ok hM) (Fr.ok hM))
theorem fX6_costIfTurned {k0 : Nat} {x1 : Int32} {M : Mem} (hM : KS SA M0 M) : Fr SA M0 (mX6_costIfTurned k0 x1 M) := by
  unfold mX6_costIfTurned
  exact (Fr.x (fX6_requireBend hM) (fun M3 _ hM3 => (Fr.x (fX6_requireFlat hM3) (fun M7 _ hM7 => (Fr.m (fX1_copyFrom (by first | omega | exact sbv_5) hM7) (fun M11 _ hM11 => (Fr.bw (show 5 ≤ _ by first | omega | exact sbv_5) hM11 (fun M12 hM12 => (Fr.m (fX3_prepare (by first | omega | exact sbv_5) hM12) (fun M16 _ hM16 => (Fr.ok hM16)))))))))))
theorem fX6_makeStep {k0 : Nat} {x1 : Int32} {M : Mem} (hM : KS SA M0 M) : Fr SA M0 (mX6_makeStep k0 x1 M) := by
  unfold mX6_makeStep
  exact (Fr.m (fX6_costNow hM) (fun M3 r2 hM3 => (Fr.m (fX0_remember (by first | omega | exact sbv_5) hM3) (fun M6 _ hM6 => (Fr.m (fX6_gaugeNow hM6) (fun M9 r8 hM9 => (Fr.m (fX1_addStep (by first | omega | exact sbv_5) hM9) (fun M12 _ hM12 => (Fr.ok hM12)))))))))
theorem fX6_fold {k0 : Nat} {x1 : Int32} {x2 : Int32} {M : Mem} (hM : KS SA M0 M) : Fr SA M0 (mX6_fold k0 x1 x2 M) := by
  unfold mX6_fold
  exact (Fr.x (fX6_requireStep hM) (fun M3 _ hM3 => (Fr.m (fX6_reasonNow hM3) (fun M7 r6 hM7 => (Fr.i (Fr.m (fX6_makeStep hM7) (fun M11 r10 hM11 => (Fr.ok hM11))) (Fr.ok hM7))))))
theorem fX6_foldNext {k0 : Nat} {M : Mem} (hM : KS SA M0 M) : Fr SA M0 (mX6_foldNext k0 M) := by
  unfold mX6_foldNext
  exact (Fr.m (fX3_prepare (by first | omega | exact sbv_5) hM) (fun M3 _ hM3 => (Fr.i (Fr.k (Fr.b (fun x1_42 => (Fr.m (fX6_makeStep hM3) (fun M9 r8 hM9 => (Fr.ok hM9)))))) (Fr.ok hM3))))
theorem fX6_unfold {k0 : Nat} {M : Mem} (hM : KS SA M0 M) : Fr SA M0 (mX6_unfold k0 M) := by
  unfold mX6_unfold
  exact (Fr.m (fX0_remember (by first | omega | exact sbv_5) hM) (fun M3 _ hM3 => (Fr.b (fun x1_18 => (Fr.m (fX1_dropSteps (by first | omega | exact sbv_5) hM3) (fun M7 _ hM7 => (Fr.ok hM7)))))))
theorem fX6_setLeg {k0 : Nat} {x1 : Int32} {x2 : Int32} {M : Mem} (hM : KS SA M0 M) : Fr SA M0 (mX6_setLeg k0 x1 x2 M) := by
  unfold mX6_setLeg
  exact (Fr.x (fX6_requireLeg hM) (fun M3 _ hM3 => (Fr.c (fun r6 => (Fr.i (Fr.ok hM3) (Fr.x (fX6_requireFlat hM3) (fun M11 _ hM11 => (Fr.m (fX0_remember (by first | omega | exact sbv_5) hM11) (fun M15 _ hM15 => (Fr.k (Fr.b (fun x3_51 => (Fr.k (Fr.bw (show 5 ≤ _ by first | omega | exact sbv_5) hM15 (fun M20 hM20 => (Fr.ok hM20))))))))))))))))
theorem fX6_setDirection {k0 : Nat} {x1 : Int32} {x2 : Int32} {M : Mem} (hM : KS SA M0 M) : Fr SA M0 (mX6_setDirection k0 x1 x2 M) := by
  unfold mX6_setDirection
  exact (Fr.x (fX6_requireBend hM) (fun M3 _ hM3 => (Fr.x (fX6_requireFlat hM3) (fun M7 _ hM7 => (Fr.m (fX0_remember (by first | omega | exact sbv_5) hM7) (fun M11 _ hM11 => (Fr.c (fun r13 => (Fr.i (Fr.k (Fr.ok hM11)) (Fr.bw (show 5 ≤ _ by first | omega | exact sbv_5) hM11 (fun M17 hM17 => (Fr.k (Fr.ok hM17)))))))))))))
theorem fX6_setTool_b32 {k0 : Nat} {M : Mem} (hM : KS SA M0 M) : Fr SA M0 (mX6_setTool_b32 k0 M) := by
  unfold mX6_setTool_b32
  exact (Fr.ok hM)
theorem fX6_setTool {k0 : Nat} {x1 : Int32} {x2 : Int32} {x3 : Int32} {M : Mem} (hM : KS SA M0 M) : Fr SA M0 (mX6_setTool k0 x1 x2 x3 M) := by
  unfold mX6_setTool
  exact (Fr.c (fun r2 => (Fr.o (fX6_setTool_b32 hM) (fun w4 => (Fr.k (Fr.c (fun r7 => (Fr.i (fX6_setTool_b32 hM) (Fr.c (fun r11 => (Fr.i (fX6_setTool_b32 hM) (Fr.m (fX0_remember (by first | omega | exact sbv_5) hM) (fun M16 _ hM16 => (Fr.k (Fr.b (fun x5_65 => (Fr.m (fX1_putTool (by first | omega | exact sbv_5) hM16) (fun M21 _ hM21 => (Fr.ok hM21)))))))))))))))))))
theorem fX6_setSheet_b33 {k0 : Nat} {M : Mem} (hM : KS SA M0 M) : Fr SA M0 (mX6_setSheet_b33 k0 M) := by
  unfold mX6_setSheet_b33
  exact (Fr.ok hM)
theorem fX6_setSheet {k0 : Nat} {x1 : Int32} {x2 : Int32} {x3 : Int32} {M : Mem} (hM : KS SA M0 M) : Fr SA M0 (mX6_setSheet k0 x1 x2 x3 M) := by
  unfold mX6_setSheet
  exact (Fr.c (fun r2 => (Fr.i (fX6_setSheet_b33 hM) (Fr.c (fun r6 => (Fr.i (fX6_setSheet_b33 hM) (Fr.c (fun r10 => (Fr.i (fX6_setSheet_b33 hM) (Fr.m (fX0_remember (by first | omega | exact sbv_5) hM) (fun M15 _ hM15 => (Fr.b (fun x4_62 => (Fr.m (fX1_putSheet (by first | omega | exact sbv_5) hM15) (fun M19 _ hM19 => (Fr.ok hM19))))))))))))))))
theorem fX6_setCost_b33 {k0 : Nat} {M : Mem} (hM : KS SA M0 M) : Fr SA M0 (mX6_setCost_b33 k0 M) := by
  unfold mX6_setCost_b33
  exact (Fr.ok hM)
theorem fX6_setCost {k0 : Nat} {x1 : Int32} {x2 : Int32} {x3 : Int32} {M : Mem} (hM : KS SA M0 M) : Fr SA M0 (mX6_setCost k0 x1 x2 x3 M) := by
  unfold mX6_setCost
  exact (Fr.c (fun r2 => (Fr.i (fX6_setCost_b33 hM) (Fr.c (fun r6 => (Fr.i (fX6_setCost_b33 hM) (Fr.c (fun r10 => (Fr.i (fX6_setCost_b33 hM) (Fr.m (fX0_remember (by first | omega | exact sbv_5) hM) (fun M15 _ hM15 => (Fr.b (fun x4_62 => (Fr.m (fX1_putCosts (by first | omega | exact sbv_5) hM15) (fun M19 _ hM19 => (Fr.ok hM19))))))))))))))))
theorem fX6_undo {k0 : Nat} {M : Mem} (hM : KS SA M0 M) : Fr SA M0 (mX6_undo k0 M) := by
  unfold mX6_undo
  exact (Fr.m (fX0_takeBack (by first | omega | exact sbv_5) (by first | omega | exact sbv_5) hM) (fun M3 r2 hM3 => (Fr.i (Fr.ok hM3) (Fr.ok hM3))))
theorem fJ6_getChars_ba4f3_b104 {k0 : Nat} {n0 : Nat} {x5 : Int32} {x6 : Int32} {M : Mem} (wk0 : 5 ≤ k0) (hM : KS SA M0 M) : Fr SA M0 (mJ6_getChars_ba4f3_b104 k0 n0 x5 x6 M) := by
  unfold mJ6_getChars_ba4f3_b104
  exact (Fr.i (Fr.ok hM) (Fr.b (fun x5_110 => (Fr.k (Fr.bw (show 5 ≤ _ by first | omega | exact sbv_5) hM (fun M14 hM14 => (Fr.ok hM14)))))))
theorem fJ6_getChars_ba4f3_b22 {k0 : Nat} {n0 : Nat} {ih22 : Int32 → Int32 → Int32 → Mem → Option (Mem × Int32)} {x0 : Int32} {x5 : Int32} {x6 : Int32} {M : Mem} (wk0 : 5 ≤ k0) (hih22 : ∀ (v0 : Int32) (v1 : Int32) (v2 : Int32) (v3 : Mem), KS SA M0 v3 → Fr SA M0 (ih22 v0 v1 v2 v3)) (hM : KS SA M0 M) : Fr SA M0 (mJ6_getChars_ba4f3_b22 k0 n0 ih22 x0 x5 x6 M) := by
  unfold mJ6_getChars_ba4f3_b22
  exact (Fr.i (Fr.b (fun x5_73 => (Fr.k (Fr.k (Fr.bw (show 5 ≤ _ by first | omega | exact sbv_5) hM (fun M8 hM8 => (Fr.i (fJ6_getChars_ba4f3_b104 (by first | omega | exact sbv_5) hM8) (Fr.b (fun x5_92 => (Fr.k (Fr.k (Fr.bw (show 5 ≤ _ by first | omega | exact sbv_5) hM8 (fun M19 hM19 => (fJ6_getChars_ba4f3_b104 (by first | omega | exact sbv_5) hM19)))))))))))))) (Fr.b (fun x3_32 => (Fr.b (fun x4_39 => (Fr.b (fun x5_44 => (Fr.k (Fr.k (Fr.bw (show 5 ≤ _ by first | omega | exact sbv_5) hM (fun M26 hM26 => (Fr.b (fun x5_57 => (Fr.k (Fr.k (Fr.bw (show 5 ≤ _ by first | omega | exact sbv_5) hM26 (fun M31 hM31 => (hih22 _ _ _ _ hM31))))))))))))))))))
theorem fJ6_getChars_ba4f3_l22_n {k0 : Nat} {n0 : Nat} (wk0 : 5 ≤ k0) : ∀ (n : Nat) (v0 : Int32) (v1 : Int32) (v2 : Int32) (v3 : Mem), KS SA M0 v3 → Fr SA M0 (mJ6_getChars_ba4f3_l22 k0 n0 n v0 v1 v2 v3) := by
  intro n
  induction n with
  | zero => intro v0 v1 v2 v3 h; exact Fr.n
  | succ n IH => intro v0 v1 v2 v3 h; exact fJ6_getChars_ba4f3_b22 (by omega) IH h
theorem fJ6_getChars_ba4f3_l22 {k0 : Nat} {n0 : Nat} {v0 : Int32} {v1 : Int32} {v2 : Int32} {v3 : Mem} (wk0 : 5 ≤ k0) {n : Nat} (h : KS SA M0 v3) : Fr SA M0 (mJ6_getChars_ba4f3_l22 k0 n0 n v0 v1 v2 v3) := fJ6_getChars_ba4f3_l22_n wk0  n v0 v1 v2 v3 h
theorem fJ6_getChars_ba4f3_b12 {k0 : Nat} {n0 : Nat} {x0 : Int32} {x5 : Int32} {y0 : Int32} {M : Mem} (wk0 : 5 ≤ k0) (hM : KS SA M0 M) : Fr SA M0 (mJ6_getChars_ba4f3_b12 k0 n0 x0 x5 y0 M) := by
  unfold mJ6_getChars_ba4f3_b12
  exact (Fr.i (Fr.b (fun x0_21 => (fJ6_getChars_ba4f3_l22 (by first | omega | exact sbv_5) hM))) (fJ6_getChars_ba4f3_l22 (by first | omega | exact sbv_5) hM))
theorem fJ6_getChars_ba4f3 {k0 : Nat} {n0 : Nat} {x0 : Int32} {x1 : Int32} {M : Mem} (wk0 : 5 ≤ k0) (hM : KS SA M0 M) : Fr SA M0 (mJ6_getChars_ba4f3 k0 n0 x0 x1 M) := by
  unfold mJ6_getChars_ba4f3
  exact (Fr.i (fJ6_getChars_ba4f3_b12 (by first | omega | exact sbv_5) hM) (fJ6_getChars_ba4f3_b12 (by first | omega | exact sbv_5) hM))
theorem ks_zr {k : Nat} {M : Mem} (h : KS SA M0 M) (hk : 5 ≤ k) : KS SA M0 (zr M k) := fun k' j' q => by
  have e : k' ≠ k := fun e => q (by show 5 ≤ k'; omega)
  rw [← h k' j' q]
  show (if k' = k then (fun _ => 0) else M.1 k') j' = M.1 k' j'
  rw [if_neg e]
theorem fJ5_ensureCapacityInternal_d00df {x1 : Int32} {M : Mem} (hM : KS SA M0 M) : Fr SA M0 (mJ5_ensureCapacityInternal_d00df x1 M) := by
  unfold mJ5_ensureCapacityInternal_d00df
  refine Fr.b (fun x2_10 => Fr.i (Fr.ok hM) (Fr.c (fun r6 => Fr.k (Fr.bw (show 5 ≤ _ by omega) ?_ (fun M9 h9 => Fr.ok h9)))))
  exact (ks_zr hM sbv_5).cp (fun _ => sbv_5)
theorem ks_cpS {a b c : Nat} {M : Mem} (h : KS SA M0 M) (hk : 5 ≤ b) : KS SA M0 (cpS M a b c) := fun k' j' q => by
  have e : k' ≠ b := fun e => q (by show 5 ≤ k'; omega)
  rw [← h k' j' q]
  exact congrFun (cpS_o (M := M) (i := a) (b := b) (dp := c) k' e).1 j'
theorem fJ0_getBytes_840e7 {k0 : Nat} {k1 : Nat} {n1 : Nat} {x2 : Int32} {x3 : Int32} {M : Mem} (wk1 : 5 ≤ k1) (hM : KS SA M0 M) : Fr SA M0 (mJ0_getBytes_840e7 k0 k1 n1 x2 x3 M) := by
  unfold mJ0_getBytes_840e7
  exact Fr.c (fun r2 => Fr.i (Fr.k (show Fr SA M0 (some (_, ())) from Fr.ok (ks_cpS hM wk1))) Fr.n)
theorem fJ5_putStringAt_47b60 {k0 : Nat} {x1 : Int32} {M : Mem} (hM : KS SA M0 M) : Fr SA M0 (mJ5_putStringAt_47b60 k0 x1 M) := by
  unfold mJ5_putStringAt_47b60
  exact (Fr.c (fun r2 => (Fr.m (fJ0_getBytes_840e7 (by first | omega | exact sbv_5) hM) (fun M7 _ hM7 => (Fr.ok hM7)))))
theorem fJ5_append_3fe6f_b45 {g : Int32} {x1 : Int32} {M : Mem} (hM : KS SA M0 M) : Fr SA M0 (mJ5_append_3fe6f_b45 g x1 M) := by
  unfold mJ5_append_3fe6f_b45
  exact (Fr.k (Fr.c (fun r10 => (Fr.i (Fr.k (Fr.bw (show 5 ≤ _ by first | omega | exact sbv_5) hM (fun M14 hM14 => Fr.n))) Fr.n))))
theorem fJ5_append_3fe6f {x1 : Int32} {M : Mem} (hM : KS SA M0 M) : Fr SA M0 (mJ5_append_3fe6f x1 M) := by
  unfold mJ5_append_3fe6f
  exact (Fr.m (fJ5_ensureCapacityInternal_d00df hM) (fun M3 _ hM3 => (Fr.c (fun r5 => (Fr.i (fJ5_append_3fe6f_b45 hM3) (Fr.c (fun r17 => (Fr.i (fJ5_append_3fe6f_b45 hM3) (Fr.bw (show 5 ≤ _ by first | omega | exact sbv_5) hM3 (fun M21 hM21 => (Fr.k (Fr.bw (show 5 ≤ _ by first | omega | exact sbv_5) hM21 (fun M25 hM25 => (Fr.k (Fr.ok hM25)))))))))))))))
theorem fJ5_append_c97b9 {x1 : Int32} {M : Mem} (hM : KS SA M0 M) : Fr SA M0 (mJ5_append_c97b9 x1 M) := by
  unfold mJ5_append_c97b9
  exact (Fr.b (fun x2_4 => (Fr.c (fun r3 => (Fr.b (fun x3_11 => (Fr.m (fJ5_ensureCapacityInternal_d00df hM) (fun M8 _ hM8 => (Fr.c (fun r10 => (Fr.i Fr.n (Fr.m (fJ6_getChars_ba4f3 (by first | omega | exact sbv_5) hM8) (fun M17 r16 hM17 => (Fr.bw (show 5 ≤ _ by first | omega | exact sbv_5) hM17 (fun M18 hM18 => (Fr.k (Fr.ok hM18)))))))))))))))))
theorem fJ5_append_cf1ce {k0 : Nat} {M : Mem} (hM : KS SA M0 M) : Fr SA M0 (mJ5_append_cf1ce k0 M) := by
  unfold mJ5_append_cf1ce
  exact (Fr.c (fun r2 => (Fr.m (fJ5_ensureCapacityInternal_d00df hM) (fun M6 _ hM6 => (Fr.m (fJ5_putStringAt_47b60 hM6) (fun M9 _ hM9 => (Fr.bw (show 5 ≤ _ by first | omega | exact sbv_5) hM9 (fun M10 hM10 => (Fr.k (Fr.ok hM10))))))))))
theorem fJ4_append_cf468 {x1 : Int32} {M : Mem} (hM : KS SA M0 M) : Fr SA M0 (mJ4_append_cf468 x1 M) := by
  unfold mJ4_append_cf468
  exact (Fr.m (fJ5_append_3fe6f hM) (fun M3 _ hM3 => (Fr.ok hM3)))
theorem fJ4_append_bf812 {x1 : Int32} {M : Mem} (hM : KS SA M0 M) : Fr SA M0 (mJ4_append_bf812 x1 M) := by
  unfold mJ4_append_bf812
  exact (Fr.m (fJ5_append_c97b9 hM) (fun M3 _ hM3 => (Fr.ok hM3)))
theorem fJ4_append_15ec4 {k0 : Nat} {M : Mem} (hM : KS SA M0 M) : Fr SA M0 (mJ4_append_15ec4 k0 M) := by
  unfold mJ4_append_15ec4
  exact (Fr.m (fJ5_append_cf1ce hM) (fun M3 _ hM3 => (Fr.ok hM3)))
theorem fJ5_setLength_d00df {x1 : Int32} {M : Mem} (hM : KS SA M0 M) : Fr SA M0 (mJ5_setLength_d00df x1 M) := by
  unfold mJ5_setLength_d00df
  exact (Fr.i (Fr.m (fJ5_ensureCapacityInternal_d00df hM) (fun M4 _ hM4 => (Fr.i (Fr.i (Fr.bw (show 5 ≤ _ by first | omega | exact sbv_5) hM4 (fun M7 hM7 => (Fr.k (Fr.ok hM7)))) (Fr.bw (show 5 ≤ _ by first | omega | exact sbv_5) hM4 (fun M10 hM10 => (Fr.bw (show 5 ≤ _ by first | omega | exact sbv_5) hM10 (fun M12 hM12 => (Fr.k (Fr.ok hM12))))))) (Fr.c (fun r16 => (Fr.i Fr.n Fr.n)))))) Fr.n)
theorem fJ4_setLength_d00df {x1 : Int32} {M : Mem} (hM : KS SA M0 M) : Fr SA M0 (mJ4_setLength_d00df x1 M) := by
  unfold mJ4_setLength_d00df
  exact (Fr.m (fJ5_setLength_d00df hM) (fun M3 _ hM3 => (Fr.ok hM3)))
theorem fX6_writeBend_b22 {k0 : Nat} {g : Int32} {x1 : Int32} {y1 : Int32} {M : Mem} (hM : KS SA M0 M) : Fr SA M0 (mX6_writeBend_b22 k0 g x1 y1 M) := by
  unfold mX6_writeBend_b22
  exact (Fr.k (Fr.m (fJ4_append_cf468 hM) (fun M8 _ hM8 => (Fr.i (Fr.ok hM8) (Fr.m (fJ4_append_cf468 hM8) (fun M12 _ hM12 => (Fr.ok hM12)))))))
theorem fX6_writeBend {k0 : Nat} {x1 : Int32} {M : Mem} (hM : KS SA M0 M) : Fr SA M0 (mX6_writeBend k0 x1 M) := by
  unfold mX6_writeBend
  exact (Fr.c (fun r2 => (Fr.i (fX6_writeBend_b22 hM) (fX6_writeBend_b22 hM))))
theorem fX6_write_b97 {k0 : Nat} {g : Int32} {M : Mem} (hM : KS SA M0 M) : Fr SA M0 (mX6_write_b97 k0 g M) := by
  unfold mX6_write_b97
  exact (Fr.k (Fr.c (fun r8 => (Fr.k (Fr.ok hM)))))
theorem fX6_write_b61 {k0 : Nat} {g : Int32} {M : Mem} (hM : KS SA M0 M) : Fr SA M0 (mX6_write_b61 k0 g M) := by
  unfold mX6_write_b61
  exact (Fr.i (fX6_write_b97 hM) (Fr.k (Fr.m (fJ4_append_15ec4 hM) (fun M14 _ hM14 => (Fr.c (fun r16 => (Fr.m (fJ4_append_bf812 hM14) (fun M20 _ hM20 => (fX6_write_b97 hM20)))))))))
theorem fX6_write_b38 {k0 : Nat} {g : Int32} {ih10 : Int32 → Int32 → Mem → Option (Mem × Int32)} {x1 : Int32} {M : Mem} (hih10 : ∀ (v0 : Int32) (v1 : Int32) (v2 : Mem), KS SA M0 v2 → Fr SA M0 (ih10 v0 v1 v2)) (hM : KS SA M0 M) : Fr SA M0 (mX6_write_b38 k0 g ih10 x1 M) := by
  unfold mX6_write_b38
  exact (Fr.k (Fr.k (Fr.m (fJ4_append_bf812 hM) (fun M27 _ hM27 => (Fr.b (fun x1_55 => (hih10 _ _ _ hM27)))))))
theorem fX6_write_b10 {k0 : Nat} {g : Int32} {ih10 : Int32 → Int32 → Mem → Option (Mem × Int32)} {x1 : Int32} {M : Mem} (hih10 : ∀ (v0 : Int32) (v1 : Int32) (v2 : Mem), KS SA M0 v2 → Fr SA M0 (ih10 v0 v1 v2)) (hM : KS SA M0 M) : Fr SA M0 (mX6_write_b10 k0 g ih10 x1 M) := by
  unfold mX6_write_b10
  exact (Fr.k (Fr.i (fX6_write_b61 hM) (Fr.i (fX6_write_b61 hM) (Fr.i (fX6_write_b38 hih10 hM) (Fr.k (Fr.m (fX6_writeBend hM) (fun M32 _ hM32 => (fX6_write_b38 hih10 hM32))))))))
theorem fX6_write_l10_n {k0 : Nat} : ∀ (n : Nat) (v0 : Int32) (v1 : Int32) (v2 : Mem), KS SA M0 v2 → Fr SA M0 (mX6_write_l10 k0 n v0 v1 v2) := by
  intro n
  induction n with
  | zero => intro v0 v1 v2 h; exact Fr.n
  | succ n IH => intro v0 v1 v2 h; exact fX6_write_b10 IH h
theorem fX6_write_l10 {k0 : Nat} {v0 : Int32} {v1 : Int32} {v2 : Mem} {n : Nat} (h : KS SA M0 v2) : Fr SA M0 (mX6_write_l10 k0 n v0 v1 v2) := fX6_write_l10_n n v0 v1 v2 h
theorem fX6_write {k0 : Nat} {M : Mem} (hM : KS SA M0 M) : Fr SA M0 (mX6_write k0 M) := by
  unfold mX6_write
  exact (Fr.m (fJ4_setLength_d00df hM) (fun M3 _ hM3 => (fX6_write_l10 hM3)))
theorem fX6_written_b15 {k0 : Nat} {g : Int32} {M : Mem} (hM : KS SA M0 M) : Fr SA M0 (mX6_written_b15 k0 g M) := by
  unfold mX6_written_b15
  exact (Fr.ok hM)
theorem fX6_written {k0 : Nat} {x1 : Int32} {M : Mem} (hM : KS SA M0 M) : Fr SA M0 (mX6_written k0 x1 M) := by
  unfold mX6_written
  exact (Fr.i (fX6_written_b15 hM) (Fr.c (fun r3 => (Fr.i (Fr.c (fun r7 => (Fr.k (Fr.ok hM)))) (fX6_written_b15 hM)))))
theorem fL_leg {k0 : Nat} {k1 : Nat} {x1 : Int32} {M : Mem} (wk1 : 5 ≤ k1) (hM : KS SA M0 M) : Fr SA M0 (mL_leg k0 k1 x1 M) := by
  unfold mL_leg
  exact (Fr.t (fX6_leg hM) (fun M3 r2 hM3 => (Fr.k (Fr.bl hM3 (fun M7 hM7 => (Fr.ok hM7))))) (fun M3 e4 hM3 => (Fr.i (Fr.ok hM3) Fr.n)))
theorem fL_isUp_b15 {k0 : Nat} {k1 : Nat} {y1 : Int32} {y2 : Int64} {M : Mem} (wk1 : 5 ≤ k1) (hM : KS SA M0 M) : Fr SA M0 (mL_isUp_b15 k0 k1 y1 y2 M) := by
  unfold mL_isUp_b15
  exact (Fr.k (Fr.bl hM (fun M8 hM8 => (Fr.ok hM8))))
theorem fL_isUp {k0 : Nat} {k1 : Nat} {x1 : Int32} {M : Mem} (wk1 : 5 ≤ k1) (hM : KS SA M0 M) : Fr SA M0 (mL_isUp k0 k1 x1 M) := by
  unfold mL_isUp
  exact (Fr.t (fX6_isUp hM) (fun M3 r2 hM3 => (Fr.i (fL_isUp_b15 (by first | omega | exact sbv_5) hM3) (fL_isUp_b15 (by first | omega | exact sbv_5) hM3))) (fun M3 e4 hM3 => (Fr.i (Fr.ok hM3) Fr.n)))
theorem fL_linePlace {k0 : Nat} {k1 : Nat} {x1 : Int32} {M : Mem} (wk1 : 5 ≤ k1) (hM : KS SA M0 M) : Fr SA M0 (mL_linePlace k0 k1 x1 M) := by
  unfold mL_linePlace
  exact (Fr.t (fX6_linePlace hM) (fun M3 r2 hM3 => (Fr.k (Fr.bd hM3 (fun M7 hM7 => (Fr.ok hM7))))) (fun M3 e4 hM3 => (Fr.i (Fr.ok hM3) Fr.n)))
theorem fL_springBackFor {k0 : Nat} {k1 : Nat} {x1 : UInt64} {M : Mem} (wk1 : 5 ≤ k1) (hM : KS SA M0 M) : Fr SA M0 (mL_springBackFor k0 k1 x1 M) := by
  unfold mL_springBackFor
  exact (Fr.t (fX6_springBackFor hM) (fun M3 r2 hM3 => (Fr.k (Fr.bd hM3 (fun M7 hM7 => (Fr.ok hM7))))) (fun M3 e4 hM3 => (Fr.i (Fr.ok hM3) Fr.n)))
theorem fL_tool {k0 : Nat} {k1 : Nat} {x1 : Int32} {x2 : Int32} {M : Mem} (wk1 : 5 ≤ k1) (hM : KS SA M0 M) : Fr SA M0 (mL_tool k0 k1 x1 x2 M) := by
  unfold mL_tool
  exact (Fr.t (fX6_tool hM) (fun M3 r2 hM3 => (Fr.k (Fr.bl hM3 (fun M7 hM7 => (Fr.ok hM7))))) (fun M3 e4 hM3 => (Fr.i (Fr.ok hM3) Fr.n)))
theorem fL_finishedCorner {k0 : Nat} {k1 : Nat} {x1 : Int32} {x2 : Int32} {M : Mem} (wk1 : 5 ≤ k1) (hM : KS SA M0 M) : Fr SA M0 (mL_finishedCorner k0 k1 x1 x2 M) := by
  unfold mL_finishedCorner
  exact (Fr.t (fX6_finishedCorner hM) (fun M3 r2 hM3 => (Fr.k (Fr.bl hM3 (fun M7 hM7 => (Fr.ok hM7))))) (fun M3 e4 hM3 => (Fr.i (Fr.ok hM3) (Fr.i (Fr.ok hM3) Fr.n))))
theorem fL_step {k0 : Nat} {k1 : Nat} {x1 : Int32} {x2 : Int32} {M : Mem} (wk1 : 5 ≤ k1) (hM : KS SA M0 M) : Fr SA M0 (mL_step k0 k1 x1 x2 M) := by
  unfold mL_step
  exact (Fr.t (fX6_step hM) (fun M3 r2 hM3 => (Fr.k (Fr.bl hM3 (fun M7 hM7 => (Fr.ok hM7))))) (fun M3 e4 hM3 => (Fr.i (Fr.ok hM3) (Fr.i (Fr.ok hM3) Fr.n))))
theorem fL_reason {k0 : Nat} {k1 : Nat} {x1 : Int32} {x2 : Int32} {M : Mem} (wk1 : 5 ≤ k1) (hM : KS SA M0 M) : Fr SA M0 (mL_reason k0 k1 x1 x2 M) := by
  unfold mL_reason
  exact (Fr.t (fX6_reason hM) (fun M3 r2 hM3 => (Fr.k (Fr.bl hM3 (fun M7 hM7 => (Fr.ok hM7))))) (fun M3 e4 hM3 => (Fr.i (Fr.ok hM3) (Fr.i (Fr.ok hM3) Fr.n))))
theorem fL_gauge {k0 : Nat} {k1 : Nat} {x1 : Int32} {x2 : Int32} {M : Mem} (wk1 : 5 ≤ k1) (hM : KS SA M0 M) : Fr SA M0 (mL_gauge k0 k1 x1 x2 M) := by
  unfold mL_gauge
  exact (Fr.t (fX6_gauge hM) (fun M3 r2 hM3 => (Fr.k (Fr.bl hM3 (fun M7 hM7 => (Fr.ok hM7))))) (fun M3 e4 hM3 => (Fr.i (Fr.ok hM3) (Fr.i (Fr.ok hM3) Fr.n))))
theorem fL_corner {k0 : Nat} {k1 : Nat} {x1 : Int32} {x2 : Int32} {x3 : Int32} {x4 : Int32} {M : Mem} (wk1 : 5 ≤ k1) (hM : KS SA M0 M) : Fr SA M0 (mL_corner k0 k1 x1 x2 x3 x4 M) := by
  unfold mL_corner
  exact (Fr.t (fX6_corner hM) (fun M3 r2 hM3 => (Fr.k (Fr.bl hM3 (fun M7 hM7 => (Fr.ok hM7))))) (fun M3 e4 hM3 => (Fr.i (Fr.ok hM3) (Fr.i (Fr.ok hM3) Fr.n))))
theorem fL_top {k0 : Nat} {k1 : Nat} {x1 : Int32} {x2 : Int32} {M : Mem} (wk1 : 5 ≤ k1) (hM : KS SA M0 M) : Fr SA M0 (mL_top k0 k1 x1 x2 M) := by
  unfold mL_top
  exact (Fr.t (fX6_top hM) (fun M3 r2 hM3 => (Fr.k (Fr.bl hM3 (fun M7 hM7 => (Fr.ok hM7))))) (fun M3 e4 hM3 => (Fr.i (Fr.ok hM3) (Fr.i (Fr.ok hM3) Fr.n))))
theorem fL_hitting {k0 : Nat} {k1 : Nat} {x1 : Int32} {x2 : Int32} {M : Mem} (wk1 : 5 ≤ k1) (hM : KS SA M0 M) : Fr SA M0 (mL_hitting k0 k1 x1 x2 M) := by
  unfold mL_hitting
  exact (Fr.t (fX6_hitting hM) (fun M3 r2 hM3 => (Fr.k (Fr.bl hM3 (fun M7 hM7 => (Fr.ok hM7))))) (fun M3 e4 hM3 => (Fr.i (Fr.ok hM3) (Fr.i (Fr.ok hM3) Fr.n))))
theorem fL_refused {k0 : Nat} {k1 : Nat} {x1 : Int32} {M : Mem} (wk1 : 5 ≤ k1) (hM : KS SA M0 M) : Fr SA M0 (mL_refused k0 k1 x1 M) := by
  unfold mL_refused
  exact (Fr.t (fX6_refused hM) (fun M3 r2 hM3 => (Fr.k (Fr.bl hM3 (fun M7 hM7 => (Fr.ok hM7))))) (fun M3 e4 hM3 => (Fr.i (Fr.ok hM3) Fr.n)))
theorem fL_costOf {k0 : Nat} {k1 : Nat} {x1 : Int32} {x2 : Int32} {M : Mem} (wk1 : 5 ≤ k1) (hM : KS SA M0 M) : Fr SA M0 (mL_costOf k0 k1 x1 x2 M) := by
  unfold mL_costOf
  exact (Fr.t (fX6_costOf hM) (fun M3 r2 hM3 => (Fr.k (Fr.bl hM3 (fun M7 hM7 => (Fr.ok hM7))))) (fun M3 e4 hM3 => (Fr.i (Fr.ok hM3) (Fr.i (Fr.ok hM3) Fr.n))))
theorem fL_planned {k0 : Nat} {k1 : Nat} {x1 : Int32} {M : Mem} (wk1 : 5 ≤ k1) (hM : KS SA M0 M) : Fr SA M0 (mL_planned k0 k1 x1 M) := by
  unfold mL_planned
  exact (Fr.t (fX6_planned hM) (fun M3 r2 hM3 => (Fr.k (Fr.bl hM3 (fun M7 hM7 => (Fr.ok hM7))))) (fun M3 e4 hM3 => (Fr.i (Fr.ok hM3) Fr.n)))
theorem fL_ordersWith {k0 : Nat} {k1 : Nat} {x1 : Int32} {x2 : Int32} {M : Mem} (wk1 : 5 ≤ k1) (hM : KS SA M0 M) : Fr SA M0 (mL_ordersWith k0 k1 x1 x2 M) := by
  unfold mL_ordersWith
  exact (Fr.t (fX6_ordersWith hM) (fun M3 r2 hM3 => (Fr.k (Fr.bl hM3 (fun M7 hM7 => (Fr.ok hM7))))) (fun M3 e4 hM3 => (Fr.i (Fr.ok hM3) (Fr.i (Fr.ok hM3) Fr.n))))
theorem fL_costIfTurned {k0 : Nat} {k1 : Nat} {x1 : Int32} {M : Mem} (wk1 : 5 ≤ k1) (hM : KS SA M0 M) : Fr SA M0 (mL_costIfTurned k0 k1 x1 M) := by
  unfold mL_costIfTurned
  exact (Fr.t (fX6_costIfTurned hM) (fun M3 r2 hM3 => (Fr.k (Fr.bl hM3 (fun M7 hM7 => (Fr.ok hM7))))) (fun M3 e4 hM3 => (Fr.i (Fr.ok hM3) (Fr.i (Fr.ok hM3) Fr.n))))
theorem fL_fold {k0 : Nat} {k1 : Nat} {x1 : Int32} {x2 : Int32} {M : Mem} (wk1 : 5 ≤ k1) (hM : KS SA M0 M) : Fr SA M0 (mL_fold k0 k1 x1 x2 M) := by
  unfold mL_fold
  exact (Fr.t (fX6_fold hM) (fun M3 r2 hM3 => (Fr.k (Fr.bl hM3 (fun M7 hM7 => (Fr.ok hM7))))) (fun M3 e4 hM3 => (Fr.i (Fr.ok hM3) (Fr.i (Fr.ok hM3) (Fr.i (Fr.ok hM3) Fr.n)))))
theorem fL_foldNext {k0 : Nat} {k1 : Nat} {M : Mem} (wk1 : 5 ≤ k1) (hM : KS SA M0 M) : Fr SA M0 (mL_foldNext k0 k1 M) := by
  unfold mL_foldNext
  exact (Fr.t (fX6_foldNext hM) (fun M3 r2 hM3 => (Fr.k (Fr.bl hM3 (fun M7 hM7 => (Fr.ok hM7))))) (fun M3 e4 hM3 => (Fr.i (Fr.ok hM3) Fr.n)))
theorem fL_setLeg {k0 : Nat} {k1 : Nat} {x1 : Int32} {x2 : Int32} {M : Mem} (wk1 : 5 ≤ k1) (hM : KS SA M0 M) : Fr SA M0 (mL_setLeg k0 k1 x1 x2 M) := by
  unfold mL_setLeg
  exact (Fr.t (fX6_setLeg hM) (fun M3 r2 hM3 => (Fr.k (Fr.bl hM3 (fun M7 hM7 => (Fr.ok hM7))))) (fun M3 e4 hM3 => (Fr.i (Fr.ok hM3) (Fr.i (Fr.ok hM3) (Fr.i (Fr.ok hM3) Fr.n)))))
theorem fL_setDirection_b16 {k0 : Nat} {k1 : Nat} {y1 : Int32} {y2 : Int64} {M : Mem} (wk1 : 5 ≤ k1) (hM : KS SA M0 M) : Fr SA M0 (mL_setDirection_b16 k0 k1 y1 y2 M) := by
  unfold mL_setDirection_b16
  exact (Fr.k (Fr.bl hM (fun M8 hM8 => (Fr.ok hM8))))
theorem fL_setDirection {k0 : Nat} {k1 : Nat} {x1 : Int32} {x2 : Int32} {M : Mem} (wk1 : 5 ≤ k1) (hM : KS SA M0 M) : Fr SA M0 (mL_setDirection k0 k1 x1 x2 M) := by
  unfold mL_setDirection
  exact (Fr.t (fX6_setDirection hM) (fun M3 r2 hM3 => (Fr.i (fL_setDirection_b16 (by first | omega | exact sbv_5) hM3) (fL_setDirection_b16 (by first | omega | exact sbv_5) hM3))) (fun M3 e4 hM3 => (Fr.i (Fr.ok hM3) (Fr.i (Fr.ok hM3) Fr.n))))
theorem fL_setTool {k0 : Nat} {k1 : Nat} {x1 : Int32} {x2 : Int32} {x3 : Int32} {M : Mem} (wk1 : 5 ≤ k1) (hM : KS SA M0 M) : Fr SA M0 (mL_setTool k0 k1 x1 x2 x3 M) := by
  unfold mL_setTool
  exact (Fr.t (fX6_setTool hM) (fun M3 r2 hM3 => (Fr.k (Fr.bl hM3 (fun M7 hM7 => (Fr.ok hM7))))) (fun M3 e4 hM3 => (Fr.i (Fr.ok hM3) Fr.n)))
theorem fL_setSheet {k0 : Nat} {k1 : Nat} {x1 : Int32} {x2 : Int32} {x3 : Int32} {M : Mem} (wk1 : 5 ≤ k1) (hM : KS SA M0 M) : Fr SA M0 (mL_setSheet k0 k1 x1 x2 x3 M) := by
  unfold mL_setSheet
  exact (Fr.t (fX6_setSheet hM) (fun M3 r2 hM3 => (Fr.k (Fr.bl hM3 (fun M7 hM7 => (Fr.ok hM7))))) (fun M3 e4 hM3 => (Fr.i (Fr.ok hM3) Fr.n)))
theorem fL_setCost {k0 : Nat} {k1 : Nat} {x1 : Int32} {x2 : Int32} {x3 : Int32} {M : Mem} (wk1 : 5 ≤ k1) (hM : KS SA M0 M) : Fr SA M0 (mL_setCost k0 k1 x1 x2 x3 M) := by
  unfold mL_setCost
  exact (Fr.t (fX6_setCost hM) (fun M3 r2 hM3 => (Fr.k (Fr.bl hM3 (fun M7 hM7 => (Fr.ok hM7))))) (fun M3 e4 hM3 => (Fr.i (Fr.ok hM3) Fr.n)))
theorem fL_written {k0 : Nat} {k1 : Nat} {x1 : Int32} {M : Mem} (wk1 : 5 ≤ k1) (hM : KS SA M0 M) : Fr SA M0 (mL_written k0 k1 x1 M) := by
  unfold mL_written
  exact (Fr.t (fX6_written hM) (fun M3 r2 hM3 => (Fr.k (Fr.bl hM3 (fun M7 hM7 => (Fr.ok hM7))))) (fun M3 e4 hM3 => (Fr.i (Fr.ok hM3) Fr.n)))
end FFcls
