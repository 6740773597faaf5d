/-! what the places keep (printed) -/
section FFpsh
variable {M0 : Mem}
theorem uX2_walk_b272 {k0 : Nat} {k1 : Nat} {ih13 : Int32 → Int32 → Int32 → Int32 → Int32 → Int32 → Int32 → Int32 → Mem → Option (Mem × Unit)} {x3 : Int32} {x5 : Int32} {x6 : Int32} {x7 : Int32} {x8 : Int32} {x9 : Int32} {x10 : Int32} {x11 : Int32} {M : Mem} (hih13 : ∀ (v0 : Int32) (v1 : Int32) (v2 : Int32) (v3 : Int32) (v4 : Int32) (v5 : Int32) (v6 : Int32) (v7 : Int32) (v8 : Mem), KS (SPs k0) M0 v8 → Fr (SPs k0) M0 (ih13 v0 v1 v2 v3 v4 v5 v6 v7 v8)) (hM : KS (SPs k0) M0 M) : Fr (SPs k0) M0 (mX2_walk_b272 k0 k1 ih13 x3 x5 x6 x7 x8 x9 x10 x11 M) := by
  unfold mX2_walk_b272
  exact (Fr.b (fun x11_276 => (hih13 _ _ _ _ _ _ _ _ _ hM)))
theorem uX2_walk_b267 {k0 : Nat} {k1 : Nat} {ih13 : Int32 → Int32 → Int32 → Int32 → Int32 → Int32 → Int32 → Int32 → Mem → Option (Mem × Unit)} {x3 : Int32} {x5 : Int32} {x6 : Int32} {x7 : Int32} {x8 : Int32} {x9 : Int32} {x11 : Int32} {y0 : Int32} {y1 : Int32} {M : Mem} (hih13 : ∀ (v0 : Int32) (v1 : Int32) (v2 : Int32) (v3 : Int32) (v4 : Int32) (v5 : Int32) (v6 : Int32) (v7 : Int32) (v8 : Mem), KS (SPs k0) M0 v8 → Fr (SPs k0) M0 (ih13 v0 v1 v2 v3 v4 v5 v6 v7 v8)) (hM : KS (SPs k0) M0 M) : Fr (SPs k0) M0 (mX2_walk_b267 k0 k1 ih13 x3 x5 x6 x7 x8 x9 x11 y0 y1 M) := by
  unfold mX2_walk_b267
  exact (Fr.b (fun x10_270 => (uX2_walk_b272 hih13 hM)))
theorem uX2_walk_b249 {k0 : Nat} {k1 : Nat} {ih13 : Int32 → Int32 → Int32 → Int32 → Int32 → Int32 → Int32 → Int32 → Mem → Option (Mem × Unit)} {x3 : Int32} {x5 : Int32} {x6 : Int32} {x7 : Int32} {x8 : Int32} {x9 : Int32} {x10 : Int32} {x11 : Int32} {y0 : Int32} {M : Mem} (hih13 : ∀ (v0 : Int32) (v1 : Int32) (v2 : Int32) (v3 : Int32) (v4 : Int32) (v5 : Int32) (v6 : Int32) (v7 : Int32) (v8 : Mem), KS (SPs k0) M0 v8 → Fr (SPs k0) M0 (ih13 v0 v1 v2 v3 v4 v5 v6 v7 v8)) (hM : KS (SPs k0) M0 M) : Fr (SPs k0) M0 (mX2_walk_b249 k0 k1 ih13 x3 x5 x6 x7 x8 x9 x10 x11 y0 M) := by
  unfold mX2_walk_b249
  exact (Fr.i (uX2_walk_b267 hih13 hM) (uX2_walk_b267 hih13 hM))
theorem uX2_walk_b217 {k0 : Nat} {k1 : Nat} {ih13 : Int32 → Int32 → Int32 → Int32 → Int32 → Int32 → Int32 → Int32 → Mem → Option (Mem × Unit)} {x3 : Int32} {x5 : Int32} {x6 : Int32} {x7 : Int32} {x8 : Int32} {x9 : Int32} {x10 : Int32} {x11 : Int32} {y0 : Int32} {M : Mem} (hih13 : ∀ (v0 : Int32) (v1 : Int32) (v2 : Int32) (v3 : Int32) (v4 : Int32) (v5 : Int32) (v6 : Int32) (v7 : Int32) (v8 : Mem), KS (SPs k0) M0 v8 → Fr (SPs k0) M0 (ih13 v0 v1 v2 v3 v4 v5 v6 v7 v8)) (hM : KS (SPs k0) M0 M) : Fr (SPs k0) M0 (mX2_walk_b217 k0 k1 ih13 x3 x5 x6 x7 x8 x9 x10 x11 y0 M) := by
  unfold mX2_walk_b217
  exact (Fr.i (uX2_walk_b272 hih13 hM) (Fr.i (uX2_walk_b272 hih13 hM) (Fr.i (uX2_walk_b249 hih13 hM) (uX2_walk_b249 hih13 hM))))
theorem uX2_walk_b108 {k0 : Nat} {k1 : Nat} {ih13 : Int32 → Int32 → Int32 → Int32 → Int32 → Int32 → Int32 → Int32 → Mem → Option (Mem × Unit)} {x3 : Int32} {x5 : Int32} {x6 : Int32} {x7 : Int32} {x8 : Int32} {x9 : Int32} {x10 : Int32} {x11 : Int32} {y1 : Int32} {y2 : Int32} {y3 : Int32} {M : Mem} (hih13 : ∀ (v0 : Int32) (v1 : Int32) (v2 : Int32) (v3 : Int32) (v4 : Int32) (v5 : Int32) (v6 : Int32) (v7 : Int32) (v8 : Mem), KS (SPs k0) M0 v8 → Fr (SPs k0) M0 (ih13 v0 v1 v2 v3 v4 v5 v6 v7 v8)) (hM : KS (SPs k0) M0 M) : Fr (SPs k0) M0 (mX2_walk_b108 k0 k1 ih13 x3 x5 x6 x7 x8 x9 x10 x11 y1 y2 y3 M) := by
  unfold mX2_walk_b108
  exact (Fr.k (Fr.bw (Or.inl ⟨by omega, by omega⟩) hM (fun M15 hM15 => (Fr.k (Fr.k (Fr.bw (Or.inl ⟨by omega, by omega⟩) hM15 (fun M19 hM19 => (Fr.k (Fr.k (Fr.bw (Or.inl ⟨by omega, by omega⟩) hM19 (fun M23 hM23 => (Fr.k (Fr.k (Fr.bw (Or.inl ⟨by omega, by omega⟩) hM23 (fun M27 hM27 => (Fr.k (Fr.k (Fr.bw (Or.inl ⟨by omega, by omega⟩) hM27 (fun M31 hM31 => (Fr.k (Fr.b (fun x8_193 => (Fr.k (Fr.b (fun x9_202 => (Fr.i (uX2_walk_b217 hih13 hM31) (uX2_walk_b217 hih13 hM31)))))))))))))))))))))))))))
theorem uX2_walk_b75 {k0 : Nat} {k1 : Nat} {ih13 : Int32 → Int32 → Int32 → Int32 → Int32 → Int32 → Int32 → Int32 → Mem → Option (Mem × Unit)} {x3 : Int32} {x5 : Int32} {x6 : Int32} {x7 : Int32} {x8 : Int32} {x9 : Int32} {x10 : Int32} {x11 : Int32} {x12 : Int32} {y1 : Int32} {y2 : Int32} {y3 : Int32} {M : Mem} (hih13 : ∀ (v0 : Int32) (v1 : Int32) (v2 : Int32) (v3 : Int32) (v4 : Int32) (v5 : Int32) (v6 : Int32) (v7 : Int32) (v8 : Mem), KS (SPs k0) M0 v8 → Fr (SPs k0) M0 (ih13 v0 v1 v2 v3 v4 v5 v6 v7 v8)) (hM : KS (SPs k0) M0 M) : Fr (SPs k0) M0 (mX2_walk_b75 k0 k1 ih13 x3 x5 x6 x7 x8 x9 x10 x11 x12 y1 y2 y3 M) := by
  unfold mX2_walk_b75
  exact (Fr.k (Fr.bw (Or.inl ⟨by omega, by omega⟩) hM (fun M10 hM10 => (Fr.i (uX2_walk_b108 hih13 hM10) (Fr.i (uX2_walk_b108 hih13 hM10) (uX2_walk_b108 hih13 hM10))))))
theorem uX2_walk_b13 {k0 : Nat} {k1 : Nat} {ih13 : Int32 → Int32 → Int32 → Int32 → Int32 → Int32 → Int32 → Int32 → Mem → Option (Mem × Unit)} {x3 : Int32} {x5 : Int32} {x6 : Int32} {x7 : Int32} {x8 : Int32} {x9 : Int32} {x10 : Int32} {x11 : Int32} {M : Mem} (hih13 : ∀ (v0 : Int32) (v1 : Int32) (v2 : Int32) (v3 : Int32) (v4 : Int32) (v5 : Int32) (v6 : Int32) (v7 : Int32) (v8 : Mem), KS (SPs k0) M0 v8 → Fr (SPs k0) M0 (ih13 v0 v1 v2 v3 v4 v5 v6 v7 v8)) (hM : KS (SPs k0) M0 M) : Fr (SPs k0) M0 (mX2_walk_b13 k0 k1 ih13 x3 x5 x6 x7 x8 x9 x10 x11 M) := by
  unfold mX2_walk_b13
  exact (Fr.i (Fr.ok hM) (Fr.i (Fr.ok hM) (Fr.i (Fr.ok hM) (Fr.k (Fr.b (fun x12_41 => (Fr.i (uX2_walk_b75 hih13 hM) (Fr.i (uX2_walk_b75 hih13 hM) (uX2_walk_b75 hih13 hM)))))))))
theorem uX2_walk_l13_n {k0 : Nat} {k1 : Nat} : ∀ (n : Nat) (v0 : Int32) (v1 : Int32) (v2 : Int32) (v3 : Int32) (v4 : Int32) (v5 : Int32) (v6 : Int32) (v7 : Int32) (v8 : Mem), KS (SPs k0) M0 v8 → Fr (SPs k0) M0 (mX2_walk_l13 k0 k1 n v0 v1 v2 v3 v4 v5 v6 v7 v8) := by
  intro n
  induction n with
  | zero => intro v0 v1 v2 v3 v4 v5 v6 v7 v8 h; exact Fr.n
  | succ n IH => intro v0 v1 v2 v3 v4 v5 v6 v7 v8 h; exact uX2_walk_b13  IH h
theorem uX2_walk_l13 {k0 : Nat} {k1 : Nat} {v0 : Int32} {v1 : Int32} {v2 : Int32} {v3 : Int32} {v4 : Int32} {v5 : Int32} {v6 : Int32} {v7 : Int32} {v8 : Mem} {n : Nat} (h : KS (SPs k0) M0 v8) : Fr (SPs k0) M0 (mX2_walk_l13 k0 k1 n v0 v1 v2 v3 v4 v5 v6 v7 v8) := uX2_walk_l13_n   n v0 v1 v2 v3 v4 v5 v6 v7 v8 h
theorem uX2_walk {k0 : Nat} {k1 : Nat} {x2 : Int32} {x3 : Int32} {x4 : Int32} {x5 : Int32} {x6 : Int32} {x7 : Int32} {M : Mem} (hM : KS (SPs k0) M0 M) : Fr (SPs k0) M0 (mX2_walk k0 k1 x2 x3 x4 x5 x6 x7 M) := by
  unfold mX2_walk
  exact (uX2_walk_l13 hM)
theorem uX2_layFinished {k0 : Nat} {k1 : Nat} {M : Mem} (hM : KS (SPs k0) M0 M) : Fr (SPs k0) M0 (mX2_layFinished k0 k1 M) := by
  unfold mX2_layFinished
  exact (Fr.bw (Or.inr ⟨rfl, by omega, by omega⟩) hM (fun M1 hM1 => (Fr.c (fun r4 => (Fr.m (uX2_walk hM1) (fun M8 _ hM8 => (Fr.ok hM8)))))))
theorem uX2_layStep_b27 {k0 : Nat} {k1 : Nat} {x2 : Int32} {x3 : Int32} {x4 : Int32} {y0 : Int32} {M : Mem} (hM : KS (SPs k0) M0 M) : Fr (SPs k0) M0 (mX2_layStep_b27 k0 k1 x2 x3 x4 y0 M) := by
  unfold mX2_layStep_b27
  exact (Fr.bw (Or.inr ⟨rfl, by omega, by omega⟩) hM (fun M6 hM6 => (Fr.i (Fr.bw (Or.inr ⟨rfl, by omega, by omega⟩) hM6 (fun M19 hM19 => (Fr.bw (Or.inr ⟨rfl, by omega, by omega⟩) hM19 (fun M21 hM21 => (Fr.m (uX2_walk hM21) (fun M25 _ hM25 => (Fr.m (uX2_walk hM25) (fun M28 _ hM28 => (Fr.ok hM28))))))))) (Fr.bw (Or.inr ⟨rfl, by omega, by omega⟩) hM6 (fun M9 hM9 => (Fr.bw (Or.inr ⟨rfl, by omega, by omega⟩) hM9 (fun M11 hM11 => (Fr.m (uX2_walk hM11) (fun M15 _ hM15 => (Fr.m (uX2_walk hM15) (fun M18 _ hM18 => (Fr.ok hM18))))))))))))
theorem uX2_layStep {k0 : Nat} {k1 : Nat} {x2 : Int32} {x3 : Int32} {M : Mem} (hM : KS (SPs k0) M0 M) : Fr (SPs k0) M0 (mX2_layStep k0 k1 x2 x3 M) := by
  unfold mX2_layStep
  exact (Fr.b (fun x4_3 => (Fr.c (fun r3 => (Fr.i (uX2_layStep_b27 hM) (uX2_layStep_b27 hM))))))
theorem uX2_reasonFor_b20 {k0 : Nat} {k1 : Nat} {x2 : Int32} {x3 : Int32} {x4 : Int32} {y0 : Int32} {M : Mem} (hM : KS (SPs k0) M0 M) : Fr (SPs k0) M0 (mX2_reasonFor_b20 k0 k1 x2 x3 x4 y0 M) := by
  unfold mX2_reasonFor_b20
  exact (Fr.i (Fr.i (Fr.ok hM) (Fr.i (Fr.ok hM) (Fr.k (Fr.k (Fr.i (Fr.m (uX2_layStep hM) (fun M11 _ hM11 => (Fr.c (fun r13 => (Fr.k (Fr.i (Fr.ok hM11) (Fr.k (Fr.i (Fr.c (fun r20 => (Fr.b (fun x8_123 => (Fr.i (Fr.i (Fr.c (fun r26 => (Fr.i (Fr.ok hM11) (Fr.ok hM11)))) (Fr.ok hM11)) (Fr.ok hM11)))))) (Fr.ok hM11))))))))) (Fr.ok hM)))))) (Fr.ok hM))
theorem uX2_reasonFor {k0 : Nat} {k1 : Nat} {x2 : Int32} {x3 : Int32} {M : Mem} (hM : KS (SPs k0) M0 M) : Fr (SPs k0) M0 (mX2_reasonFor k0 k1 x2 x3 M) := by
  unfold mX2_reasonFor
  exact (Fr.b (fun x4_3 => (Fr.i (uX2_reasonFor_b20 hM) (uX2_reasonFor_b20 hM))))
theorem uX2_possibleSteps_b34 {k0 : Nat} {k1 : Nat} {ih5 : Int32 → Int32 → Int32 → Mem → Option (Mem × Int32)} {x2 : Int32} {x3 : Int32} {x4 : Int32} {M : Mem} (hih5 : ∀ (v0 : Int32) (v1 : Int32) (v2 : Int32) (v3 : Mem), KS (SPs k0) M0 v3 → Fr (SPs k0) M0 (ih5 v0 v1 v2 v3)) (hM : KS (SPs k0) M0 M) : Fr (SPs k0) M0 (mX2_possibleSteps_b34 k0 k1 ih5 x2 x3 x4 M) := by
  unfold mX2_possibleSteps_b34
  exact (Fr.b (fun x4_34 => (hih5 _ _ _ _ hM)))
theorem uX2_possibleSteps_b5 {k0 : Nat} {k1 : Nat} {ih5 : Int32 → Int32 → Int32 → Mem → Option (Mem × Int32)} {x2 : Int32} {x3 : Int32} {x4 : Int32} {M : Mem} (hih5 : ∀ (v0 : Int32) (v1 : Int32) (v2 : Int32) (v3 : Mem), KS (SPs k0) M0 v3 → Fr (SPs k0) M0 (ih5 v0 v1 v2 v3)) (hM : KS (SPs k0) M0 M) : Fr (SPs k0) M0 (mX2_possibleSteps_b5 k0 k1 ih5 x2 x3 x4 M) := by
  unfold mX2_possibleSteps_b5
  exact (Fr.c (fun r2 => (Fr.i (Fr.ok hM) (Fr.m (uX2_reasonFor hM) (fun M7 r6 hM7 => (Fr.i (Fr.b (fun x3_33 => (uX2_possibleSteps_b34 hih5 hM7))) (uX2_possibleSteps_b34 hih5 hM7)))))))
theorem uX2_possibleSteps_l5_n {k0 : Nat} {k1 : Nat} : ∀ (n : Nat) (v0 : Int32) (v1 : Int32) (v2 : Int32) (v3 : Mem), KS (SPs k0) M0 v3 → Fr (SPs k0) M0 (mX2_possibleSteps_l5 k0 k1 n v0 v1 v2 v3) := by
  intro n
  induction n with
  | zero => intro v0 v1 v2 v3 h; exact Fr.n
  | succ n IH => intro v0 v1 v2 v3 h; exact uX2_possibleSteps_b5  IH h
theorem uX2_possibleSteps_l5 {k0 : Nat} {k1 : Nat} {v0 : Int32} {v1 : Int32} {v2 : Int32} {v3 : Mem} {n : Nat} (h : KS (SPs k0) M0 v3) : Fr (SPs k0) M0 (mX2_possibleSteps_l5 k0 k1 n v0 v1 v2 v3) := uX2_possibleSteps_l5_n   n v0 v1 v2 v3 h
theorem uX2_possibleSteps {k0 : Nat} {k1 : Nat} {x2 : Int32} {M : Mem} (hM : KS (SPs k0) M0 M) : Fr (SPs k0) M0 (mX2_possibleSteps k0 k1 x2 M) := by
  unfold mX2_possibleSteps
  exact (uX2_possibleSteps_l5 hM)
end FFpsh

