/-! frames of reading a token (printed) -/
abbrev SC (k j : Nat) : Prop := k = 2 ∧ 4 ≤ j ∧ j ≤ 7
abbrev SN (k j : Nat) : Prop := k = 135 ∧ 11 ≤ j ∧ j ≤ 14
abbrev S11 (k j : Nat) : Prop := k = 135 ∧ 12 ≤ j ∧ j ≤ 14
section FFrdc
variable {M0 : Mem}
theorem fX4_takeWord_b39 {M : Mem} (hM : KS SC M0 M) : Fr SC M0 (mX4_takeWord_b39 2 M) := by
  unfold mX4_takeWord_b39
  exact (Fr.i (Fr.bw (by decide) hM (fun M3 hM3 => (Fr.ok hM3))) (Fr.bw (by decide) hM (fun M5 hM5 => (Fr.ok hM5))))
theorem fX4_takeWord_b0 {ih0 : Mem → Option (Mem × Unit)} {M : Mem} (hih0 : ∀ (v0 : Mem), KS SC M0 v0 → Fr SC M0 (ih0 v0)) (hM : KS SC M0 M) : Fr SC M0 (mX4_takeWord_b0 2 ih0 M) := by
  unfold mX4_takeWord_b0
  exact (Fr.i (fX4_takeWord_b39 hM) (Fr.k (Fr.k (Fr.c (fun r10 => (Fr.i (fX4_takeWord_b39 hM) (Fr.bw (by decide) hM (fun M13 hM13 => (hih0 _ hM13)))))))))
theorem fX4_takeWord_l0_n  : ∀ (n : Nat) (v0 : Mem), KS SC M0 v0 → Fr SC M0 (mX4_takeWord_l0 2 n v0) := by
  intro n
  induction n with
  | zero => intro v0 h; exact Fr.n
  | succ n IH => intro v0 h; exact fX4_takeWord_b0  IH h
theorem fX4_takeWord_l0  {v0 : Mem} {n : Nat} (h : KS SC M0 v0) : Fr SC M0 (mX4_takeWord_l0 2 n v0) := fX4_takeWord_l0_n   n v0 h
theorem fX4_takeWord {M : Mem} (hM : KS SC M0 M) : Fr SC M0 (mX4_takeWord 2 M) := by
  unfold mX4_takeWord
  exact (fX4_takeWord_l0 hM)
theorem fX4_takeNumber_b76 {M : Mem} (hM : KS SC M0 M) : Fr SC M0 (mX4_takeNumber_b76 2 M) := by
  unfold mX4_takeNumber_b76
  exact (Fr.i (Fr.bw (by decide) hM (fun M3 hM3 => (Fr.ok hM3))) (Fr.bw (by decide) hM (fun M5 hM5 => (Fr.ok hM5))))
theorem fX4_takeNumber_b63 {ih0 : Mem → Option (Mem × Unit)} {M : Mem} (hih0 : ∀ (v0 : Mem), KS SC M0 v0 → Fr SC M0 (ih0 v0)) (hM : KS SC M0 M) : Fr SC M0 (mX4_takeNumber_b63 2 ih0 M) := by
  unfold mX4_takeNumber_b63
  exact (Fr.bw (by decide) hM (fun M14 hM14 => (hih0 _ hM14)))
theorem fX4_takeNumber_b0 {ih0 : Mem → Option (Mem × Unit)} {M : Mem} (hih0 : ∀ (v0 : Mem), KS SC M0 v0 → Fr SC M0 (ih0 v0)) (hM : KS SC M0 M) : Fr SC M0 (mX4_takeNumber_b0 2 ih0 M) := by
  unfold mX4_takeNumber_b0
  exact (Fr.i (fX4_takeNumber_b76 hM) (Fr.k (Fr.k (Fr.c (fun r10 => (Fr.i (fX4_takeNumber_b76 hM) (Fr.i (fX4_takeNumber_b63 hih0 hM) (Fr.k (Fr.k (Fr.bw (by decide) hM (fun M18 hM18 => (fX4_takeNumber_b63 hih0 hM18))))))))))))
theorem fX4_takeNumber_l0_n  : ∀ (n : Nat) (v0 : Mem), KS SC M0 v0 → Fr SC M0 (mX4_takeNumber_l0 2 n v0) := by
  intro n
  induction n with
  | zero => intro v0 h; exact Fr.n
  | succ n IH => intro v0 h; exact fX4_takeNumber_b0  IH h
theorem fX4_takeNumber_l0  {v0 : Mem} {n : Nat} (h : KS SC M0 v0) : Fr SC M0 (mX4_takeNumber_l0 2 n v0) := fX4_takeNumber_l0_n   n v0 h
theorem fX4_takeNumber {M : Mem} (hM : KS SC M0 M) : Fr SC M0 (mX4_takeNumber 2 M) := by
  unfold mX4_takeNumber
  exact (fX4_takeNumber_l0 hM)
theorem fX4_nextToken_b143 {y1 : Int32} {M : Mem} (hM : KS SC M0 M) : Fr SC M0 (mX4_nextToken_b143 2 y1 M) := by
  unfold mX4_nextToken_b143
  exact (Fr.bw (by decide) hM (fun M24 hM24 => (Fr.bw (by decide) hM24 (fun M26 hM26 => (Fr.ok hM26)))))
theorem fX4_nextToken_b47 {M : Mem} (hM : KS SC M0 M) : Fr SC M0 (mX4_nextToken_b47 2 M) := by
  unfold mX4_nextToken_b47
  exact (Fr.bw (by decide) hM (fun M4 hM4 => (Fr.bw (by decide) hM4 (fun M6 hM6 => (Fr.i (Fr.k (Fr.k (Fr.c (fun r12 => (Fr.i (Fr.k (Fr.k (Fr.c (fun r18 => (Fr.i (Fr.k (Fr.k (Fr.i (fX4_nextToken_b143 hM6) (fX4_nextToken_b143 hM6)))) (Fr.m (fX4_takeNumber hM6) (fun M30 _ hM30 => (Fr.ok hM30)))))))) (Fr.m (fX4_takeWord hM6) (fun M33 _ hM33 => (Fr.ok hM33)))))))) (Fr.bw (by decide) hM6 (fun M34 hM34 => (Fr.ok hM34))))))))
theorem fX4_nextToken_b8 {ih8 : Mem → Option (Mem × Unit)} {M : Mem} (hih8 : ∀ (v0 : Mem), KS SC M0 v0 → Fr SC M0 (ih8 v0)) (hM : KS SC M0 M) : Fr SC M0 (mX4_nextToken_b8 2 ih8 M) := by
  unfold mX4_nextToken_b8
  exact (Fr.i (fX4_nextToken_b47 hM) (Fr.k (Fr.k (Fr.c (fun r39 => (Fr.i (fX4_nextToken_b47 hM) (Fr.bw (by decide) hM (fun M42 hM42 => (hih8 _ hM42)))))))))
theorem fX4_nextToken_l8_n  : ∀ (n : Nat) (v0 : Mem), KS SC M0 v0 → Fr SC M0 (mX4_nextToken_l8 2 n v0) := by
  intro n
  induction n with
  | zero => intro v0 h; exact Fr.n
  | succ n IH => intro v0 h; exact fX4_nextToken_b8  IH h
theorem fX4_nextToken_l8  {v0 : Mem} {n : Nat} (h : KS SC M0 v0) : Fr SC M0 (mX4_nextToken_l8 2 n v0) := fX4_nextToken_l8_n   n v0 h
theorem fX4_nextToken {M : Mem} (hM : KS SC M0 M) : Fr SC M0 (mX4_nextToken 2 M) := by
  unfold mX4_nextToken
  exact (Fr.bw (by decide) hM (fun M1 hM1 => (fX4_nextToken_l8 hM1)))
end FFrdc
section FFrdr
variable {M0 : Mem}
end FFrdr
section FFrds
variable {M0 : Mem}
end FFrds
section FST
variable {M N M0 : Mem}
theorem fr_next : Fr SC M (mX4_nextToken 2 M) := fX4_nextToken KS.rf
end FST

