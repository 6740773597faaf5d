/-! what a walk writes (printed) -/
section FFpls
variable {M0 : Mem}
theorem pX2_walk_b272 {k0 : Nat} {k1 : Nat} {ih13 : Int32 → Int32 → Int32 → Int32 → Int32 → Int32 → Int32 → Int32 → Mem → Option (Mem × Unit)} {x3 : Int32} {x5 : Int32} {x6 : Int32} {x7 : Int32} {x8 : Int32} {x9 : Int32} {x10 : Int32} {x11 : Int32} {M : Mem} (hih13 : ∀ (v0 : Int32) (v1 : Int32) (v2 : Int32) (v3 : Int32) (v4 : Int32) (v5 : Int32) (v6 : Int32) (v7 : Int32) (v8 : Mem), KS (SPl k0) M0 v8 → Fr (SPl k0) M0 (ih13 v0 v1 v2 v3 v4 v5 v6 v7 v8)) (hM : KS (SPl k0) M0 M) : Fr (SPl k0) M0 (mX2_walk_b272 k0 k1 ih13 x3 x5 x6 x7 x8 x9 x10 x11 M) := by
  unfold mX2_walk_b272
  exact (Fr.b (fun x11_276 => (hih13 _ _ _ _ _ _ _ _ _ hM)))
theorem pX2_walk_b267 {k0 : Nat} {k1 : Nat} {ih13 : Int32 → Int32 → Int32 → Int32 → Int32 → Int32 → Int32 → Int32 → Mem → Option (Mem × Unit)} {x3 : Int32} {x5 : Int32} {x6 : Int32} {x7 : Int32} {x8 : Int32} {x9 : Int32} {x11 : Int32} {y0 : Int32} {y1 : Int32} {M : Mem} (hih13 : ∀ (v0 : Int32) (v1 : Int32) (v2 : Int32) (v3 : Int32) (v4 : Int32) (v5 : Int32) (v6 : Int32) (v7 : Int32) (v8 : Mem), KS (SPl k0) M0 v8 → Fr (SPl k0) M0 (ih13 v0 v1 v2 v3 v4 v5 v6 v7 v8)) (hM : KS (SPl k0) M0 M) : Fr (SPl k0) M0 (mX2_walk_b267 k0 k1 ih13 x3 x5 x6 x7 x8 x9 x11 y0 y1 M) := by
  unfold mX2_walk_b267
  exact (Fr.b (fun x10_270 => (pX2_walk_b272 hih13 hM)))
theorem pX2_walk_b249 {k0 : Nat} {k1 : Nat} {ih13 : Int32 → Int32 → Int32 → Int32 → Int32 → Int32 → Int32 → Int32 → Mem → Option (Mem × Unit)} {x3 : Int32} {x5 : Int32} {x6 : Int32} {x7 : Int32} {x8 : Int32} {x9 : Int32} {x10 : Int32} {x11 : Int32} {y0 : Int32} {M : Mem} (hih13 : ∀ (v0 : Int32) (v1 : Int32) (v2 : Int32) (v3 : Int32) (v4 : Int32) (v5 : Int32) (v6 : Int32) (v7 : Int32) (v8 : Mem), KS (SPl k0) M0 v8 → Fr (SPl k0) M0 (ih13 v0 v1 v2 v3 v4 v5 v6 v7 v8)) (hM : KS (SPl k0) M0 M) : Fr (SPl k0) M0 (mX2_walk_b249 k0 k1 ih13 x3 x5 x6 x7 x8 x9 x10 x11 y0 M) := by
  unfold mX2_walk_b249
  exact (Fr.i (pX2_walk_b267 hih13 hM) (pX2_walk_b267 hih13 hM))
theorem pX2_walk_b217 {k0 : Nat} {k1 : Nat} {ih13 : Int32 → Int32 → Int32 → Int32 → Int32 → Int32 → Int32 → Int32 → Mem → Option (Mem × Unit)} {x3 : Int32} {x5 : Int32} {x6 : Int32} {x7 : Int32} {x8 : Int32} {x9 : Int32} {x10 : Int32} {x11 : Int32} {y0 : Int32} {M : Mem} (hih13 : ∀ (v0 : Int32) (v1 : Int32) (v2 : Int32) (v3 : Int32) (v4 : Int32) (v5 : Int32) (v6 : Int32) (v7 : Int32) (v8 : Mem), KS (SPl k0) M0 v8 → Fr (SPl k0) M0 (ih13 v0 v1 v2 v3 v4 v5 v6 v7 v8)) (hM : KS (SPl k0) M0 M) : Fr (SPl k0) M0 (mX2_walk_b217 k0 k1 ih13 x3 x5 x6 x7 x8 x9 x10 x11 y0 M) := by
  unfold mX2_walk_b217
  exact (Fr.i (pX2_walk_b272 hih13 hM) (Fr.i (pX2_walk_b272 hih13 hM) (Fr.i (pX2_walk_b249 hih13 hM) (pX2_walk_b249 hih13 hM))))
theorem pX2_walk_b108 {k0 : Nat} {k1 : Nat} {ih13 : Int32 → Int32 → Int32 → Int32 → Int32 → Int32 → Int32 → Int32 → Mem → Option (Mem × Unit)} {x3 : Int32} {x5 : Int32} {x6 : Int32} {x7 : Int32} {x8 : Int32} {x9 : Int32} {x10 : Int32} {x11 : Int32} {y1 : Int32} {y2 : Int32} {y3 : Int32} {M : Mem} (hih13 : ∀ (v0 : Int32) (v1 : Int32) (v2 : Int32) (v3 : Int32) (v4 : Int32) (v5 : Int32) (v6 : Int32) (v7 : Int32) (v8 : Mem), KS (SPl k0) M0 v8 → Fr (SPl k0) M0 (ih13 v0 v1 v2 v3 v4 v5 v6 v7 v8)) (hM : KS (SPl k0) M0 M) : Fr (SPl k0) M0 (mX2_walk_b108 k0 k1 ih13 x3 x5 x6 x7 x8 x9 x10 x11 y1 y2 y3 M) := by
  unfold mX2_walk_b108
  exact (Fr.k (Fr.bw ⟨by omega, by omega⟩ hM (fun M15 hM15 => (Fr.k (Fr.k (Fr.bw ⟨by omega, by omega⟩ hM15 (fun M19 hM19 => (Fr.k (Fr.k (Fr.bw ⟨by omega, by omega⟩ hM19 (fun M23 hM23 => (Fr.k (Fr.k (Fr.bw ⟨by omega, by omega⟩ hM23 (fun M27 hM27 => (Fr.k (Fr.k (Fr.bw ⟨by omega, by omega⟩ hM27 (fun M31 hM31 => (Fr.k (Fr.b (fun x8_193 => (Fr.k (Fr.b (fun x9_202 => (Fr.i (pX2_walk_b217 hih13 hM31) (pX2_walk_b217 hih13 hM31)))))))))))))))))))))))))))
theorem pX2_walk_b75 {k0 : Nat} {k1 : Nat} {ih13 : Int32 → Int32 → Int32 → Int32 → Int32 → Int32 → Int32 → Int32 → Mem → Option (Mem × Unit)} {x3 : Int32} {x5 : Int32} {x6 : Int32} {x7 : Int32} {x8 : Int32} {x9 : Int32} {x10 : Int32} {x11 : Int32} {x12 : Int32} {y1 : Int32} {y2 : Int32} {y3 : Int32} {M : Mem} (hih13 : ∀ (v0 : Int32) (v1 : Int32) (v2 : Int32) (v3 : Int32) (v4 : Int32) (v5 : Int32) (v6 : Int32) (v7 : Int32) (v8 : Mem), KS (SPl k0) M0 v8 → Fr (SPl k0) M0 (ih13 v0 v1 v2 v3 v4 v5 v6 v7 v8)) (hM : KS (SPl k0) M0 M) : Fr (SPl k0) M0 (mX2_walk_b75 k0 k1 ih13 x3 x5 x6 x7 x8 x9 x10 x11 x12 y1 y2 y3 M) := by
  unfold mX2_walk_b75
  exact (Fr.k (Fr.bw ⟨by omega, by omega⟩ hM (fun M10 hM10 => (Fr.i (pX2_walk_b108 hih13 hM10) (Fr.i (pX2_walk_b108 hih13 hM10) (pX2_walk_b108 hih13 hM10))))))
theorem pX2_walk_b13 {k0 : Nat} {k1 : Nat} {ih13 : Int32 → Int32 → Int32 → Int32 → Int32 → Int32 → Int32 → Int32 → Mem → Option (Mem × Unit)} {x3 : Int32} {x5 : Int32} {x6 : Int32} {x7 : Int32} {x8 : Int32} {x9 : Int32} {x10 : Int32} {x11 : Int32} {M : Mem} (hih13 : ∀ (v0 : Int32) (v1 : Int32) (v2 : Int32) (v3 : Int32) (v4 : Int32) (v5 : Int32) (v6 : Int32) (v7 : Int32) (v8 : Mem), KS (SPl k0) M0 v8 → Fr (SPl k0) M0 (ih13 v0 v1 v2 v3 v4 v5 v6 v7 v8)) (hM : KS (SPl k0) M0 M) : Fr (SPl k0) M0 (mX2_walk_b13 k0 k1 ih13 x3 x5 x6 x7 x8 x9 x10 x11 M) := by
  unfold mX2_walk_b13
  exact (Fr.i (Fr.ok hM) (Fr.i (Fr.ok hM) (Fr.i (Fr.ok hM) (Fr.k (Fr.b (fun x12_41 => (Fr.i (pX2_walk_b75 hih13 hM) (Fr.i (pX2_walk_b75 hih13 hM) (pX2_walk_b75 hih13 hM)))))))))
theorem pX2_walk_l13_n {k0 : Nat} {k1 : Nat} : ∀ (n : Nat) (v0 : Int32) (v1 : Int32) (v2 : Int32) (v3 : Int32) (v4 : Int32) (v5 : Int32) (v6 : Int32) (v7 : Int32) (v8 : Mem), KS (SPl k0) M0 v8 → Fr (SPl k0) M0 (mX2_walk_l13 k0 k1 n v0 v1 v2 v3 v4 v5 v6 v7 v8) := by
  intro n
  induction n with
  | zero => intro v0 v1 v2 v3 v4 v5 v6 v7 v8 h; exact Fr.n
  | succ n IH => intro v0 v1 v2 v3 v4 v5 v6 v7 v8 h; exact pX2_walk_b13  IH h
theorem pX2_walk_l13 {k0 : Nat} {k1 : Nat} {v0 : Int32} {v1 : Int32} {v2 : Int32} {v3 : Int32} {v4 : Int32} {v5 : Int32} {v6 : Int32} {v7 : Int32} {v8 : Mem} {n : Nat} (h : KS (SPl k0) M0 v8) : Fr (SPl k0) M0 (mX2_walk_l13 k0 k1 n v0 v1 v2 v3 v4 v5 v6 v7 v8) := pX2_walk_l13_n   n v0 v1 v2 v3 v4 v5 v6 v7 v8 h
theorem pX2_walk {k0 : Nat} {k1 : Nat} {x2 : Int32} {x3 : Int32} {x4 : Int32} {x5 : Int32} {x6 : Int32} {x7 : Int32} {M : Mem} (hM : KS (SPl k0) M0 M) : Fr (SPl k0) M0 (mX2_walk k0 k1 x2 x3 x4 x5 x6 x7 M) := by
  unfold mX2_walk
  exact (pX2_walk_l13 hM)
end FFpls
section FFprl
variable {M0 : Mem}
theorem pX7_layLeg {x1 : Int32} {x2 : Int32} {M : Mem} (hM : KS SRl M0 M) : Fr SRl M0 (mX7_layLeg 135 x1 x2 M) := by
  unfold mX7_layLeg
  exact (Fr.k (Fr.bw (by unfold SRl; omega) hM (fun M3 hM3 => (Fr.k (Fr.bw (by unfold SRl; omega) hM3 (fun M6 hM6 => (Fr.c (fun r8 => (Fr.k (Fr.bw (by unfold SRl; omega) hM6 (fun M11 hM11 => (Fr.c (fun r14 => (Fr.k (Fr.bw (by unfold SRl; omega) hM11 (fun M17 hM17 => (Fr.k (Fr.bw (by unfold SRl; omega) hM17 (fun M21 hM21 => (Fr.k (Fr.bw (by unfold SRl; omega) hM21 (fun M24 hM24 => (Fr.ok hM24)))))))))))))))))))))))
theorem pX7_laySide_b136 {ih16 : Int32 → Int32 → Int32 → Int32 → Int32 → Int32 → Mem → Option (Mem × Unit)} {x2 : Int32} {x4 : Int32} {x5 : Int32} {x6 : Int32} {x7 : Int32} {x8 : Int32} {M : Mem} (hih16 : ∀ (v0 : Int32) (v1 : Int32) (v2 : Int32) (v3 : Int32) (v4 : Int32) (v5 : Int32) (v6 : Mem), KS SRl M0 v6 → Fr SRl M0 (ih16 v0 v1 v2 v3 v4 v5 v6)) (hM : KS SRl M0 M) : Fr SRl M0 (mX7_laySide_b136 135 ih16 x2 x4 x5 x6 x7 x8 M) := by
  unfold mX7_laySide_b136
  exact (Fr.b (fun x8_140 => (hih16 _ _ _ _ _ _ _ hM)))
theorem pX7_laySide_b131 {ih16 : Int32 → Int32 → Int32 → Int32 → Int32 → Int32 → Mem → Option (Mem × Unit)} {x2 : Int32} {x4 : Int32} {x5 : Int32} {x6 : Int32} {x8 : Int32} {y0 : Int32} {y1 : Int32} {M : Mem} (hih16 : ∀ (v0 : Int32) (v1 : Int32) (v2 : Int32) (v3 : Int32) (v4 : Int32) (v5 : Int32) (v6 : Mem), KS SRl M0 v6 → Fr SRl M0 (ih16 v0 v1 v2 v3 v4 v5 v6)) (hM : KS SRl M0 M) : Fr SRl M0 (mX7_laySide_b131 135 ih16 x2 x4 x5 x6 x8 y0 y1 M) := by
  unfold mX7_laySide_b131
  exact (Fr.b (fun x7_134 => (pX7_laySide_b136 hih16 hM)))
theorem pX7_laySide_b113 {ih16 : Int32 → Int32 → Int32 → Int32 → Int32 → Int32 → Mem → Option (Mem × Unit)} {x2 : Int32} {x4 : Int32} {x5 : Int32} {x6 : Int32} {x7 : Int32} {x8 : Int32} {y0 : Int32} {M : Mem} (hih16 : ∀ (v0 : Int32) (v1 : Int32) (v2 : Int32) (v3 : Int32) (v4 : Int32) (v5 : Int32) (v6 : Mem), KS SRl M0 v6 → Fr SRl M0 (ih16 v0 v1 v2 v3 v4 v5 v6)) (hM : KS SRl M0 M) : Fr SRl M0 (mX7_laySide_b113 135 ih16 x2 x4 x5 x6 x7 x8 y0 M) := by
  unfold mX7_laySide_b113
  exact (Fr.i (pX7_laySide_b131 hih16 hM) (pX7_laySide_b131 hih16 hM))
theorem pX7_laySide_b103 {ih16 : Int32 → Int32 → Int32 → Int32 → Int32 → Int32 → Mem → Option (Mem × Unit)} {x2 : Int32} {x4 : Int32} {x5 : Int32} {x6 : Int32} {x7 : Int32} {x8 : Int32} {y0 : Int32} {M : Mem} (hih16 : ∀ (v0 : Int32) (v1 : Int32) (v2 : Int32) (v3 : Int32) (v4 : Int32) (v5 : Int32) (v6 : Mem), KS SRl M0 v6 → Fr SRl M0 (ih16 v0 v1 v2 v3 v4 v5 v6)) (hM : KS SRl M0 M) : Fr SRl M0 (mX7_laySide_b103 135 ih16 x2 x4 x5 x6 x7 x8 y0 M) := by
  unfold mX7_laySide_b103
  exact (Fr.i (pX7_laySide_b113 hih16 hM) (pX7_laySide_b113 hih16 hM))
theorem pX7_laySide_b53 {ih16 : Int32 → Int32 → Int32 → Int32 → Int32 → Int32 → Mem → Option (Mem × Unit)} {x2 : Int32} {x4 : Int32} {x5 : Int32} {x6 : Int32} {x7 : Int32} {x8 : Int32} {y0 : Int32} {M : Mem} (hih16 : ∀ (v0 : Int32) (v1 : Int32) (v2 : Int32) (v3 : Int32) (v4 : Int32) (v5 : Int32) (v6 : Mem), KS SRl M0 v6 → Fr SRl M0 (ih16 v0 v1 v2 v3 v4 v5 v6)) (hM : KS SRl M0 M) : Fr SRl M0 (mX7_laySide_b53 135 ih16 x2 x4 x5 x6 x7 x8 y0 M) := by
  unfold mX7_laySide_b53
  exact (Fr.k (Fr.c (fun r14 => (Fr.i (pX7_laySide_b136 hih16 hM) (Fr.c (fun r19 => (Fr.i (pX7_laySide_b136 hih16 hM) (Fr.k (Fr.i (pX7_laySide_b103 hih16 hM) (pX7_laySide_b103 hih16 hM))))))))))
theorem pX7_laySide_b16 {ih16 : Int32 → Int32 → Int32 → Int32 → Int32 → Int32 → Mem → Option (Mem × Unit)} {x2 : Int32} {x4 : Int32} {x5 : Int32} {x6 : Int32} {x7 : Int32} {x8 : Int32} {M : Mem} (hih16 : ∀ (v0 : Int32) (v1 : Int32) (v2 : Int32) (v3 : Int32) (v4 : Int32) (v5 : Int32) (v6 : Mem), KS SRl M0 v6 → Fr SRl M0 (ih16 v0 v1 v2 v3 v4 v5 v6)) (hM : KS SRl M0 M) : Fr SRl M0 (mX7_laySide_b16 135 ih16 x2 x4 x5 x6 x7 x8 M) := by
  unfold mX7_laySide_b16
  exact (Fr.i (Fr.ok hM) (Fr.k (Fr.i (Fr.ok hM) (Fr.m (pX7_layLeg hM) (fun M10 _ hM10 => (Fr.i (pX7_laySide_b53 hih16 hM10) (pX7_laySide_b53 hih16 hM10)))))))
theorem pX7_laySide_l16_n  : ∀ (n : Nat) (v0 : Int32) (v1 : Int32) (v2 : Int32) (v3 : Int32) (v4 : Int32) (v5 : Int32) (v6 : Mem), KS SRl M0 v6 → Fr SRl M0 (mX7_laySide_l16 135 n v0 v1 v2 v3 v4 v5 v6) := by
  intro n
  induction n with
  | zero => intro v0 v1 v2 v3 v4 v5 v6 h; exact Fr.n
  | succ n IH => intro v0 v1 v2 v3 v4 v5 v6 h; exact pX7_laySide_b16  IH h
theorem pX7_laySide_l16  {v0 : Int32} {v1 : Int32} {v2 : Int32} {v3 : Int32} {v4 : Int32} {v5 : Int32} {v6 : Mem} {n : Nat} (h : KS SRl M0 v6) : Fr SRl M0 (mX7_laySide_l16 135 n v0 v1 v2 v3 v4 v5 v6) := pX7_laySide_l16_n   n v0 v1 v2 v3 v4 v5 v6 h
theorem pX7_laySide {x1 : Int32} {x2 : Int32} {x3 : Int32} {x4 : Int32} {x5 : Int32} {x6 : Int32} {M : Mem} (hM : KS SRl M0 M) : Fr SRl M0 (mX7_laySide 135 x1 x2 x3 x4 x5 x6 M) := by
  unfold mX7_laySide
  exact (Fr.bw (by unfold SRl; omega) hM (fun M1 hM1 => (Fr.bw (by unfold SRl; omega) hM1 (fun M3 hM3 => (pX7_laySide_l16 hM3)))))
end FFprl
