/-! what a walk writes (printed) -/
section FFpls
variable {M0 : Mem}
theorem pX2_walk_b272 {k0 : Nat} {k1 : Nat} {ih13 : Int32 → Int32 → Int32 → Int32 → Int32 → Int32 → Int32 → Int32 → Mem → Option (Mem × Unit)} {x3 : Int32} {x5 : Int32} {x6 : Int32} {x7 : Int32} {x8 : Int32} {x9 : Int32} {x10 : Int32} {x11 : Int32} {M : Mem} (hih13 : ∀ (v0 : Int32) (v1 : Int32) (v2 : Int32) (v3 : Int32) (v4 : Int32) (v5 : Int32) (v6 : Int32) (v7 : Int32) (v8 : Mem), KS (SPl k0) M0 v8 → Fr (SPl k0) M0 (ih13 v0 v1 v2 v3 v4 v5 v6 v7 v8)) (hM : KS (SPl k0) M0 M) : Fr (SPl k0) M0 (mX2_walk_b272 k0 k1 ih13 x3 x5 x6 x7 x8 x9 x10 x11 M) := by
  unfold mX2_walk_b272
  exact (Fr.b (fun x11_276 => (hih13 _ _ _ _ _ _ _ _ _ hM)))
theorem pX2_walk_b267 {k0 : Nat} {k1 : Nat} {ih13 : Int32 → Int32 → Int32 → Int32 → Int32 → Int32 → Int32 → Int32 → Mem → Option (Mem × Unit)} {x3 : Int32} {x5 : Int32} {x6 : Int32} {x7 : Int32} {x8 : Int32} {x9 : Int32} {x11 : Int32} {y0 : Int32} {y1 : Int32} {M : Mem} (hih13 : ∀ (v0 : Int32) (v1 : Int32) (v2 : Int32) (v3 : Int32) (v4 : Int32) (v5 : Int32) (v6 : Int32) (v7 : Int32) (v8 : Mem), KS (SPl k0) M0 v8 → Fr (SPl k0) M0 (ih13 v0 v1 v2 v3 v4 v5 v6 v7 v8)) (hM : KS (SPl k0) M0 M) : Fr (SPl k0) M0 (mX2_walk_b267 k0 k1 ih13 x3 x5 x6 x7 x8 x9 x11 y0 y1 M) := by
  unfold mX2_walk_b267
  exact (Fr.b (fun x10_270 => (pX2_walk_b272 hih13 hM)))
theorem pX2_walk_b249 {k0 : Nat} {k1 : Nat} {ih13 : Int32 → Int32 → Int32 → Int32 → Int32 → Int32 → Int32 → Int32 → Mem → Option (Mem × Unit)} {x3 : Int32} {x5 : Int32} {x6 : Int32} {x7 : Int32} {x8 : Int32} {x9 : Int32} {x10 : Int32} {x11 : Int32} {y0 : Int32} {M : Mem} (hih13 : ∀ (v0 : Int32) (v1 : Int32) (v2 : Int32) (v3 : Int32) (v4 : Int32) (v5 : Int32) (v6 : Int32) (v7 : Int32) (v8 : Mem), KS (SPl k0) M0 v8 → Fr (SPl k0) M0 (ih13 v0 v1 v2 v3 v4 v5 v6 v7 v8)) (hM : KS (SPl k0) M0 M) : Fr (SPl k0) M0 (mX2_walk_b249 k0 k1 ih13 x3 x5 x6 x7 x8 x9 x10 x11 y0 M) := by
  unfold mX2_walk_b249
  exact (Fr.i (pX2_walk_b267 hih13 hM) (pX2_walk_b267 hih13 hM))
theorem pX2_walk_b217 {k0 : Nat} {k1 : Nat} {ih13 : Int32 → Int32 → Int32 → Int32 → Int32 → Int32 → Int32 → Int32 → Mem → Option (Mem × Unit)} {x3 : Int32} {x5 : Int32} {x6 : Int32} {x7 : Int32} {x8 : Int32} {x9 : Int32} {x10 : Int32} {x11 : Int32} {y0 : Int32} {M : Mem} (hih13 : ∀ (v0 : Int32) (v1 : Int32) (v2 : Int32) (v3 : Int32) (v4 : Int32) (v5 : Int32) (v6 : Int32) (v7 : Int32) (v8 : Mem), KS (SPl k0) M0 v8 → Fr (SPl k0) M0 (ih13 v0 v1 v2 v3 v4 v5 v6 v7 v8)) (hM : KS (SPl k0) M0 M) : Fr (SPl k0) M0 (mX2_walk_b217 k0 k1 ih13 x3 x5 x6 x7 x8 x9 x10 x11 y0 M) := by
  unfold mX2_walk_b217
  exact (Fr.i (pX2_walk_b272 hih13 hM) (Fr.i (pX2_walk_b272 hih13 hM) (Fr.i (pX2_walk_b249 hih13 hM) (pX2_walk_b249 hih13 hM))))
theorem pX2_walk_b108 {k0 : Nat} {k1 : Nat} {ih13 : Int32 → Int32 → Int32 → Int32 → Int32 → Int32 → Int32 → Int32 → Mem → Option (Mem × Unit)} {x3 : Int32} {x5 : Int32} {x6 : Int32} {x7 : Int32} {x8 : Int32} {x9 : Int32} {x10 : Int32} {x11 : Int32} {y1 : Int32} {y2 : Int32} {y3 : Int32} {M : Mem} (hih13 : ∀ (v0 : Int32) (v1 : Int32) (v2 : Int32) (v3 : Int32) (v4 : Int32) (v5 : Int32) (v6 : Int32) (v7 : Int32) (v8 : Mem), KS (SPl k0) M0 v8 → Fr (SPl k0) M0 (ih13 v0 v1 v2 v3 v4 v5 v6 v7 v8)) (hM : KS (SPl k0) M0 M) : Fr (SPl k0) M0 (mX2_walk_b108 k0 k1 ih13 x3 x5 x6 x7 x8 x9 x10 x11 y1 y2 y3 M) := by
  unfold mX2_walk_b108
  exact (Fr.k (Fr.bw ⟨by omega, by omega⟩ hM (fun M15 hM15 => (Fr.k (Fr.k (Fr.bw ⟨by omega, by omega⟩ hM15 (fun M19 hM19 => (Fr.k (Fr.k (Fr.bw ⟨by omega, by omega⟩ hM19 (fun M23 hM23 => (Fr.k (Fr.k (Fr.bw ⟨by omega, by omega⟩ hM23 (fun M27 hM27 => (Fr.k (Fr.k (Fr.bw ⟨by omega, by omega⟩ hM27 (fun M31 hM31 => (Fr.k (Fr.b (fun x8_193 => (Fr.k (Fr.b (fun x9_202 => (Fr.i (pX2_walk_b217 hih13 hM31) (pX2_walk_b217 hih13 hM31)))))))))))))))))))))))))))
theorem pX2_walk_b75 {k0 : Nat} {k1 : Nat} {ih13 : Int32 → Int32 → Int32 → Int32 → Int32 → Int32 → Int32 → Int32 → Mem → Option (Mem × Unit)} {x3 : Int32} {x5 : Int32} {x6 : Int32} {x7 : Int32} {x8 : Int32} {x9 : Int32} {x10 : Int32} {x11 : Int32} {x12 : Int32} {y1 : Int32} {y2 : Int32} {y3 : Int32} {M : Mem} (hih13 : ∀ (v0 : Int32) (v1 : Int32) (v2 : Int32) (v3 : Int32) (v4 : Int32) (v5 : Int32) (v6 : Int32) (v7 : Int32) (v8 : Mem), KS (SPl k0) M0 v8 → Fr (SPl k0) M0 (ih13 v0 v1 v2 v3 v4 v5 v6 v7 v8)) (hM : KS (SPl k0) M0 M) : Fr (SPl k0) M0 (mX2_walk_b75 k0 k1 ih13 x3 x5 x6 x7 x8 x9 x10 x11 x12 y1 y2 y3 M) := by
  unfold mX2_walk_b75
  exact (Fr.k (Fr.bw ⟨by omega, by omega⟩ hM (fun M10 hM10 => (Fr.i (pX2_walk_b108 hih13 hM10) (Fr.i (pX2_walk_b108 hih13 hM10) (pX2_walk_b108 hih13 hM10))))))
theorem pX2_walk_b13 {k0 : Nat} {k1 : Nat} {ih13 : Int32 → Int32 → Int32 → Int32 → Int32 → Int32 → Int32 → Int32 → Mem → Option (Mem × Unit)} {x3 : Int32} {x5 : Int32} {x6 : Int32} {x7 : Int32} {x8 : Int32} {x9 : Int32} {x10 : Int32} {x11 : Int32} {M : Mem} (hih13 : ∀ (v0 : Int32) (v1 : Int32) (v2 : Int32) (v3 : Int32) (v4 : Int32) (v5 : Int32) (v6 : Int32) (v7 : Int32) (v8 : Mem), KS (SPl k0) M0 v8 → Fr (SPl k0) M0 (ih13 v0 v1 v2 v3 v4 v5 v6 v7 v8)) (hM : KS (SPl k0) M0 M) : Fr (SPl k0) M0 (mX2_walk_b13 k0 k1 ih13 x3 x5 x6 x7 x8 x9 x10 x11 M) := by
  unfold mX2_walk_b13
  exact (Fr.i (Fr.ok hM) (Fr.i (Fr.ok hM) (Fr.i (Fr.ok hM) (Fr.k (Fr.b (fun x12_41 => (Fr.i (pX2_walk_b75 hih13 hM) (Fr.i (pX2_walk_b75 hih13 hM) (pX2_walk_b75 hih13 hM)))))))))
theorem pX2_walk_l13_n {k0 : Nat} {k1 : Nat} : ∀ (n : Nat) (v0 : Int32) (v1 : Int32) (v2 : Int32) (v3 : Int32) (v4 : Int32) (v5 : Int32) (v6 : Int32) (v7 : Int32) (v8 : Mem), KS (SPl k0) M0 v8 → Fr (SPl k0) M0 (mX2_walk_l13 k0 k1 n v0 v1 v2 v3 v4 v5 v6 v7 v8) := by
  intro n
  induction n with
  | zero => intro v0 v1 v2 v3 v4 v5 v6 v7 v8 h; exact Fr.n
  | succ n IH => intro v0 v1 v2 v3 v4 v5 v6 v7 v8 h; exact pX2_walk_b13  IH h
theorem pX2_walk_l13 {k0 : Nat} {k1 : Nat} {v0 : Int32} {v1 : Int32} {v2 : Int32} {v3 : Int32} {v4 : Int32} {v5 : Int32} {v6 : Int32} {v7 : Int32} {v8 : Mem} {n : Nat} (h : KS (SPl k0) M0 v8) : Fr (SPl k0) M0 (mX2_walk_l13 k0 k1 n v0 v1 v2 v3 v4 v5 v6 v7 v8) := pX2_walk_l13_n   n v0 v1 v2 v3 v4 v5 v6 v7 v8 h
theorem pX2_walk {k0 : Nat} {k1 : Nat} {x2 : Int32} {x3 : Int32} {x4 : Int32} {x5 : Int32} {x6 : Int32} {x7 : Int32} {M : Mem} (hM : KS (SPl k0) M0 M) : Fr (SPl k0) M0 (mX2_walk k0 k1 x2 x3 x4 x5 x6 x7 M) := by
  unfold mX2_walk
  exact (pX2_walk_l13 hM)
end FFpls
section FFprl
variable {M0 : Mem}
end FFprl

